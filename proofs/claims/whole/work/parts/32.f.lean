/-! functions, by wip/whole/sy.py -/
/- 199 -/
def lb_199_1 (I : (Nat → Nat → Int32)) : Option (Int32 × (Nat → Nat → Int32)) :=
  (if ex_in (1 : Int32) 2 then (if ex_in (1 : Int32) 2 then let I2 := up I 103 ((1 : Int32)).toNatClampNeg ((I 103 ((1 : Int32)).toNatClampNeg) + (1 : Int32))
  (some (((-1) : Int32), I2)) else none) else none)
def bd_199_9 (c9 : Int32 → (Nat → Nat → Int32) → Option (Int32 × (Nat → Nat → Int32))) (x5 : Int32) (I : (Nat → Nat → Int32)) : Option (Int32 × (Nat → Nat → Int32)) :=
  (if x5 < (I 97 1) then (if ex_in x5 60 then (if ex_in x5 60 then let I8 := up I 122 (x5).toNatClampNeg (I 127 (x5).toNatClampNeg)
  (c9 (x5 + (1 : Int32)) I8) else none) else none) else ((f_198  I).bind fun q7 => (some (q7, I))))
def lb_199_9 : Int32 → (Nat → Nat → Int32) → Option (Int32 × (Nat → Nat → Int32)) := fx (fun _ _ => none) (bd_199_9 ) FU
def lb_199_7 (c5 : Int32 → Int32 → (Nat → Nat → Int32) → Option (Int32 × (Nat → Nat → Int32))) (x4 : Int32) (x5 : Int32) (s1 : Int32) (s2 : Int32) (s3 : Int32) (I : (Nat → Nat → Int32)) : Option (Int32 × (Nat → Nat → Int32)) :=
  (if ex_in s1 60 then let I9 := up I 124 (s1).toNatClampNeg (s2 + s3)
  ((f_170 x5 I9).bind fun q10 => (if ex_in x5 60 then (if ex_in q10 60 then let I11 := up I9 127 (q10).toNatClampNeg (I9 122 (x5).toNatClampNeg)
  (c5 x4 (x5 + (1 : Int32)) I11) else none) else none)) else none)
def bd_199_5 (c5 : Int32 → Int32 → (Nat → Nat → Int32) → Option (Int32 × (Nat → Nat → Int32))) (x4 : Int32) (x5 : Int32) (I : (Nat → Nat → Int32)) : Option (Int32 × (Nat → Nat → Int32)) :=
  (if x5 < (I 97 1) then (if ex_in x5 60 then (if ex_in (I 122 (x5).toNatClampNeg) 60 then (if ex_in x5 60 then (if (I 110 (x5).toNatClampNeg) = x4 then (lb_199_7 c5 x4 x5 (I 122 (x5).toNatClampNeg) (I 124 ((I 122 (x5).toNatClampNeg)).toNatClampNeg) (0 : Int32) I) else (lb_199_7 c5 x4 x5 (I 122 (x5).toNatClampNeg) (I 124 ((I 122 (x5).toNatClampNeg)).toNatClampNeg) (1 : Int32) I)) else none) else none) else none) else (lb_199_9  (0 : Int32) I))
def lb_199_5 : Int32 → Int32 → (Nat → Nat → Int32) → Option (Int32 × (Nat → Nat → Int32)) := fx (fun _ _ _ => none) (bd_199_5 ) FU
def bd_199_3 (c3 : Int32 → Int32 → Int32 → Int32 → Int32 → (Nat → Nat → Int32) → Option (Int32 × (Nat → Nat → Int32))) (x1 : Int32) (x2 : Int32) (x3 : Int32) (x4 : Int32) (x5 : Int32) (I : (Nat → Nat → Int32)) : Option (Int32 × (Nat → Nat → Int32)) :=
  (if x5 < (I 97 1) then (if ex_in x5 60 then (if ex_in (((60 : Int32) * (I 97 52)) + x5) 1200 then let I12 := up I 125 ((((60 : Int32) * (I 97 52)) + x5)).toNatClampNeg (I 122 (x5).toNatClampNeg)
  (if ex_in x5 60 then (if ex_in (((60 : Int32) * (I12 97 52)) + x5) 1200 then let I13 := up I12 126 ((((60 : Int32) * (I12 97 52)) + x5)).toNatClampNeg (I12 124 (x5).toNatClampNeg)
  (c3 x1 x2 x3 x4 (x5 + (1 : Int32)) I13) else none) else none) else none) else none) else (let I4 := up I 97 52 ((I 97 52) + (1 : Int32))
  ((f_167 x1 x2 I4).bind fun q5 => ((f_168 x4 x4 x3 q5).bind fun q6 => (lb_199_5  x4 (0 : Int32) q6)))))
def lb_199_3 : Int32 → Int32 → Int32 → Int32 → Int32 → (Nat → Nat → Int32) → Option (Int32 × (Nat → Nat → Int32)) := fx (fun _ _ _ _ _ _ => none) (bd_199_3 ) FU
def f_199 (x1 : Int32) (x2 : Int32) (x3 : Int32) (x4 : Int32) (I : (Nat → Nat → Int32)) : Option (Int32 × (Nat → Nat → Int32)) :=
  (let I1 := up I 97 0 (0 : Int32)
  (if (I1 97 52) = (20 : Int32) then (lb_199_1   I1) else ((f_193 x1 x2 x3 x4 I1).bind fun q3 => (if q3 = 0 then (lb_199_1   I1) else (lb_199_3  x1 x2 x3 x4 (0 : Int32) I1)))))
theorem tl_199_1 {d : Nat} {κ : Nat × Option Nat} {cs : Nat × Nat} {J : Nat → Nat → Int64} {W : Nat} (I : (Nat → Nat → Int32)) (r : (Int32 × (Nat → Nat → Int32))) (h : lb_199_1   I = some r) : tt (d + 2) me_199 bk_199_1 [some (.ref 97), none, none, none, none, none] [] (cw κ cs I J W) (.inl (some (.int r.1))) (cw κ cs r.2 J W) :=
  tt_J (L1 := (bk_199_1.drop 4)) 3 [some (.ref 97), none, none, none, none, none] [.int (1 : Int32), .ref 103, .int (1 : Int32), .ref 103] (cw κ cs I J W) (fun _ => rfl) (
  tt_Qi rfl h fun h =>
  let I2 := up I 103 ((1 : Int32)).toNatClampNeg ((I 103 ((1 : Int32)).toNatClampNeg) + (1 : Int32))
  tt_J (L1 := (bk_199_1.drop 7)) 1 [some (.ref 97), none, none, none, none, none] [.int ((I 103 ((1 : Int32)).toNatClampNeg) + (1 : Int32)), .int (1 : Int32), .ref 103] (cw κ cs I J W) (fun _ => rfl) (
  tt_Wi rfl (Nat.le_of_ble_eq_true rfl) h fun h =>
  tt_R 2 (fun r => (.inl (some (.int r.1)))) (fun r => (cw κ cs r.2 J W)) h (fun _ => rfl)))
theorem tb_199_9 {d : Nat} {κ : Nat × Option Nat} {cs : Nat × Nat} {J : Nat → Nat → Int64} {W : Nat} (c9 : Int32 → (Nat → Nat → Int32) → Option (Int32 × (Nat → Nat → Int32))) (k9 : ∀ (x5 : Int32) (I : (Nat → Nat → Int32)) (r : (Int32 × (Nat → Nat → Int32))), c9 x5 I = some r → tt (d + 2) me_199 bk_199_9 [some (.ref 97), none, none, none, none, some (.int x5)] [] (cw κ cs I J W) (.inl (some (.int r.1))) (cw κ cs r.2 J W)) (x5 : Int32) (I : (Nat → Nat → Int32)) (r : (Int32 × (Nat → Nat → Int32))) (h : bd_199_9  c9 x5 I = some r) : tt (d + 2) me_199 bk_199_9 [some (.ref 97), none, none, none, none, some (.int x5)] [] (cw κ cs I J W) (.inl (some (.int r.1))) (cw κ cs r.2 J W) :=
  tt_I (L1 := (bk_199_9.drop 4)) (L2 := bk_199_10) 4 [some (.ref 97), none, none, none, none, some (.int x5)] [] (cw κ cs I J W) h (fun _ => rfl) (fun h =>
  tt_J (L1 := (bk_199_9.drop 10)) 5 [some (.ref 97), none, none, none, none, some (.int x5)] [.int x5, .ref 127, .int x5, .ref 122] (cw κ cs I J W) (fun _ => rfl) (
  tt_Qi rfl h fun h =>
  let I8 := up I 122 (x5).toNatClampNeg (I 127 (x5).toNatClampNeg)
  tt_Wi rfl (Nat.le_of_ble_eq_true rfl) h fun h =>
  tt_J (L1 := bk_199_9) 1 [some (.ref 97), none, none, none, none, some (.int (x5 + (1 : Int32)))] [] (cw κ cs I8 J W) (fun _ => rfl) (tt_F [some (.ref 97), none, none, none, none, some (.int (x5 + (1 : Int32)))] (And.intro rfl (And.intro rfl trivial)) (k9 (x5 + (1 : Int32)) I8 _ h)))) (fun h =>
  tt_C (L1 := (bk_199_10.drop 2)) 2 [some (.ref 97), none, none, none, none, some (.int x5)] [] (cw κ cs I J W) h (fun _ => rfl) (fun _ e => m_198 (d := d + 1) e) fun q7 h =>
  tt_R 1 (fun r => (.inl (some (.int r.1)))) (fun r => (cw κ cs r.2 J W)) h (fun _ => rfl))
theorem tn_199_9 {d : Nat} {κ : Nat × Option Nat} {cs : Nat × Nat} {J : Nat → Nat → Int64} {W : Nat} : ∀ (n : Nat) (x5 : Int32) (I : (Nat → Nat → Int32)) (r : (Int32 × (Nat → Nat → Int32))), fx (fun _ _ => none) (bd_199_9 ) n x5 I = some r → tt (d + 2) me_199 bk_199_9 [some (.ref 97), none, none, none, none, some (.int x5)] [] (cw κ cs I J W) (.inl (some (.int r.1))) (cw κ cs r.2 J W)
  | 0 => fun _ _ _ h => nomatch h
  | n + 1 => fun x5 I r h => tb_199_9  (fx _ (bd_199_9 ) n) (tn_199_9  n) x5 I r h
theorem tl_199_9 {d : Nat} {κ : Nat × Option Nat} {cs : Nat × Nat} {J : Nat → Nat → Int64} {W : Nat} (x5 : Int32) (I : (Nat → Nat → Int32)) (r : (Int32 × (Nat → Nat → Int32))) (h : lb_199_9  x5 I = some r) : tt (d + 2) me_199 bk_199_9 [some (.ref 97), none, none, none, none, some (.int x5)] [] (cw κ cs I J W) (.inl (some (.int r.1))) (cw κ cs r.2 J W) := tn_199_9  FU x5 I r h
theorem tl_199_7 {d : Nat} {κ : Nat × Option Nat} {cs : Nat × Nat} {J : Nat → Nat → Int64} {W : Nat} (c5 : Int32 → Int32 → (Nat → Nat → Int32) → Option (Int32 × (Nat → Nat → Int32))) (k5 : ∀ (x4 : Int32) (x5 : Int32) (I : (Nat → Nat → Int32)) (r : (Int32 × (Nat → Nat → Int32))), c5 x4 x5 I = some r → tt (d + 2) me_199 bk_199_5 [some (.ref 97), none, none, none, some (.int x4), some (.int x5)] [] (cw κ cs I J W) (.inl (some (.int r.1))) (cw κ cs r.2 J W)) (x4 : Int32) (x5 : Int32) (s1 : Int32) (s2 : Int32) (s3 : Int32) (I : (Nat → Nat → Int32)) (r : (Int32 × (Nat → Nat → Int32))) (h : lb_199_7 c5 x4 x5 s1 s2 s3 I = some r) : tt (d + 2) me_199 bk_199_7 [some (.ref 97), none, none, none, some (.int x4), some (.int x5)] [.int s3, .int s2, .int s1, .ref 124] (cw κ cs I J W) (.inl (some (.int r.1))) (cw κ cs r.2 J W) :=
  let I9 := up I 124 (s1).toNatClampNeg (s2 + s3)
  tt_J (L1 := (bk_199_7.drop 1)) 0 [some (.ref 97), none, none, none, some (.int x4), some (.int x5)] [.int (s2 + s3), .int s1, .ref 124] (cw κ cs I J W) (fun _ => rfl) (
  tt_Wi rfl (Nat.le_of_ble_eq_true rfl) h fun h =>
  tt_C (L1 := (bk_199_7.drop 7)) 5 [some (.ref 97), none, none, none, some (.int x4), some (.int x5)] [.ref 127] (cw κ cs I9 J W) h (fun _ => rfl) (fun _ e => m_170 (d := d + 1) e) fun q10 h =>
  tt_J (L1 := (bk_199_7.drop 10)) 2 [some (.ref 97), none, none, none, some (.int x4), some (.int x5)] [.int x5, .ref 122, .int q10, .ref 127] (cw κ cs I9 J W) (fun _ => rfl) (
  tt_Qi rfl h fun h =>
  let I11 := up I9 127 (q10).toNatClampNeg (I9 122 (x5).toNatClampNeg)
  tt_Wi rfl (Nat.le_of_ble_eq_true rfl) h fun h =>
  tt_J (L1 := bk_199_5) 1 [some (.ref 97), none, none, none, some (.int x4), some (.int (x5 + (1 : Int32)))] [] (cw κ cs I11 J W) (fun _ => rfl) (tt_F [some (.ref 97), none, none, none, some (.int x4), some (.int (x5 + (1 : Int32)))] (And.intro rfl (And.intro rfl (And.intro rfl trivial))) (k5 x4 (x5 + (1 : Int32)) I11 _ h))))
theorem tb_199_5 {d : Nat} {κ : Nat × Option Nat} {cs : Nat × Nat} {J : Nat → Nat → Int64} {W : Nat} (c5 : Int32 → Int32 → (Nat → Nat → Int32) → Option (Int32 × (Nat → Nat → Int32))) (k5 : ∀ (x4 : Int32) (x5 : Int32) (I : (Nat → Nat → Int32)) (r : (Int32 × (Nat → Nat → Int32))), c5 x4 x5 I = some r → tt (d + 2) me_199 bk_199_5 [some (.ref 97), none, none, none, some (.int x4), some (.int x5)] [] (cw κ cs I J W) (.inl (some (.int r.1))) (cw κ cs r.2 J W)) (x4 : Int32) (x5 : Int32) (I : (Nat → Nat → Int32)) (r : (Int32 × (Nat → Nat → Int32))) (h : bd_199_5  c5 x4 x5 I = some r) : tt (d + 2) me_199 bk_199_5 [some (.ref 97), none, none, none, some (.int x4), some (.int x5)] [] (cw κ cs I J W) (.inl (some (.int r.1))) (cw κ cs r.2 J W) :=
  tt_I (L1 := (bk_199_5.drop 4)) (L2 := bk_199_8) 4 [some (.ref 97), none, none, none, some (.int x4), some (.int x5)] [] (cw κ cs I J W) h (fun _ => rfl) (fun h =>
  tt_J (L1 := (bk_199_5.drop 9)) 4 [some (.ref 97), none, none, none, some (.int x4), some (.int x5)] [.int x5, .ref 122, .ref 124] (cw κ cs I J W) (fun _ => rfl) (
  tt_Qi rfl h fun h =>
  tt_J (L1 := (bk_199_5.drop 11)) 0 [some (.ref 97), none, none, none, some (.int x4), some (.int x5)] [.int (I 122 (x5).toNatClampNeg), .ref 124, .int (I 122 (x5).toNatClampNeg), .ref 124] (cw κ cs I J W) (fun _ => rfl) (
  tt_Qi rfl h fun h =>
  tt_J (L1 := (bk_199_5.drop 15)) 2 [some (.ref 97), none, none, none, some (.int x4), some (.int x5)] [.int x5, .ref 110, .int (I 124 ((I 122 (x5).toNatClampNeg)).toNatClampNeg), .int (I 122 (x5).toNatClampNeg), .ref 124] (cw κ cs I J W) (fun _ => rfl) (
  tt_Qi rfl h fun h =>
  tt_I (L1 := bk_199_6) (L2 := (bk_199_5.drop 18)) 2 [some (.ref 97), none, none, none, some (.int x4), some (.int x5)] [.int (I 124 ((I 122 (x5).toNatClampNeg)).toNatClampNeg), .int (I 122 (x5).toNatClampNeg), .ref 124] (cw κ cs I J W) h (fun _ => rfl) (fun h =>
  tt_J (L1 := bk_199_7) 0 [some (.ref 97), none, none, none, some (.int x4), some (.int x5)] [.int (0 : Int32), .int (I 124 ((I 122 (x5).toNatClampNeg)).toNatClampNeg), .int (I 122 (x5).toNatClampNeg), .ref 124] (cw κ cs I J W) (fun _ => rfl) (tt_F [some (.ref 97), none, none, none, some (.int x4), some (.int x5)] (And.intro rfl (And.intro rfl (And.intro rfl trivial))) (tl_199_7 c5 k5 x4 x5 (I 122 (x5).toNatClampNeg) (I 124 ((I 122 (x5).toNatClampNeg)).toNatClampNeg) (0 : Int32) I _ h))) (fun h =>
  tt_J (L1 := bk_199_7) 1 [some (.ref 97), none, none, none, some (.int x4), some (.int x5)] [.int (1 : Int32), .int (I 124 ((I 122 (x5).toNatClampNeg)).toNatClampNeg), .int (I 122 (x5).toNatClampNeg), .ref 124] (cw κ cs I J W) (fun _ => rfl) (tt_F [some (.ref 97), none, none, none, some (.int x4), some (.int x5)] (And.intro rfl (And.intro rfl (And.intro rfl trivial))) (tl_199_7 c5 k5 x4 x5 (I 122 (x5).toNatClampNeg) (I 124 ((I 122 (x5).toNatClampNeg)).toNatClampNeg) (1 : Int32) I _ h))))))) (fun h =>
  tt_J (L1 := bk_199_9) 1 [some (.ref 97), none, none, none, some (.int x4), some (.int (0 : Int32))] [] (cw κ cs I J W) (fun _ => rfl) (tt_F [some (.ref 97), none, none, none, none, some (.int (0 : Int32))] (And.intro rfl (And.intro rfl trivial)) (tl_199_9  (0 : Int32) I _ h)))
theorem tn_199_5 {d : Nat} {κ : Nat × Option Nat} {cs : Nat × Nat} {J : Nat → Nat → Int64} {W : Nat} : ∀ (n : Nat) (x4 : Int32) (x5 : Int32) (I : (Nat → Nat → Int32)) (r : (Int32 × (Nat → Nat → Int32))), fx (fun _ _ _ => none) (bd_199_5 ) n x4 x5 I = some r → tt (d + 2) me_199 bk_199_5 [some (.ref 97), none, none, none, some (.int x4), some (.int x5)] [] (cw κ cs I J W) (.inl (some (.int r.1))) (cw κ cs r.2 J W)
  | 0 => fun _ _ _ _ h => nomatch h
  | n + 1 => fun x4 x5 I r h => tb_199_5  (fx _ (bd_199_5 ) n) (tn_199_5  n) x4 x5 I r h
theorem tl_199_5 {d : Nat} {κ : Nat × Option Nat} {cs : Nat × Nat} {J : Nat → Nat → Int64} {W : Nat} (x4 : Int32) (x5 : Int32) (I : (Nat → Nat → Int32)) (r : (Int32 × (Nat → Nat → Int32))) (h : lb_199_5  x4 x5 I = some r) : tt (d + 2) me_199 bk_199_5 [some (.ref 97), none, none, none, some (.int x4), some (.int x5)] [] (cw κ cs I J W) (.inl (some (.int r.1))) (cw κ cs r.2 J W) := tn_199_5  FU x4 x5 I r h
theorem tb_199_3 {d : Nat} {κ : Nat × Option Nat} {cs : Nat × Nat} {J : Nat → Nat → Int64} {W : Nat} (c3 : Int32 → Int32 → Int32 → Int32 → Int32 → (Nat → Nat → Int32) → Option (Int32 × (Nat → Nat → Int32))) (k3 : ∀ (x1 : Int32) (x2 : Int32) (x3 : Int32) (x4 : Int32) (x5 : Int32) (I : (Nat → Nat → Int32)) (r : (Int32 × (Nat → Nat → Int32))), c3 x1 x2 x3 x4 x5 I = some r → tt (d + 2) me_199 bk_199_3 [some (.ref 97), some (.int x1), some (.int x2), some (.int x3), some (.int x4), some (.int x5)] [] (cw κ cs I J W) (.inl (some (.int r.1))) (cw κ cs r.2 J W)) (x1 : Int32) (x2 : Int32) (x3 : Int32) (x4 : Int32) (x5 : Int32) (I : (Nat → Nat → Int32)) (r : (Int32 × (Nat → Nat → Int32))) (h : bd_199_3  c3 x1 x2 x3 x4 x5 I = some r) : tt (d + 2) me_199 bk_199_3 [some (.ref 97), some (.int x1), some (.int x2), some (.int x3), some (.int x4), some (.int x5)] [] (cw κ cs I J W) (.inl (some (.int r.1))) (cw κ cs r.2 J W) :=
  tt_I (L1 := (bk_199_3.drop 4)) (L2 := bk_199_4) 4 [some (.ref 97), some (.int x1), some (.int x2), some (.int x3), some (.int x4), some (.int x5)] [] (cw κ cs I J W) h (fun _ => rfl) (fun h =>
  tt_J (L1 := (bk_199_3.drop 15)) 10 [some (.ref 97), some (.int x1), some (.int x2), some (.int x3), some (.int x4), some (.int x5)] [.int x5, .ref 122, .int (((60 : Int32) * (I 97 52)) + x5), .ref 125] (cw κ cs I J W) (fun _ => rfl) (
  tt_Qi rfl h fun h =>
  let I12 := up I 125 ((((60 : Int32) * (I 97 52)) + x5)).toNatClampNeg (I 122 (x5).toNatClampNeg)
  tt_Wi rfl (Nat.le_of_ble_eq_true rfl) h fun h =>
  tt_J (L1 := (bk_199_3.drop 28)) 10 [some (.ref 97), some (.int x1), some (.int x2), some (.int x3), some (.int x4), some (.int x5)] [.int x5, .ref 124, .int (((60 : Int32) * (I12 97 52)) + x5), .ref 126] (cw κ cs I12 J W) (fun _ => rfl) (
  tt_Qi rfl h fun h =>
  let I13 := up I12 126 ((((60 : Int32) * (I12 97 52)) + x5)).toNatClampNeg (I12 124 (x5).toNatClampNeg)
  tt_Wi rfl (Nat.le_of_ble_eq_true rfl) h fun h =>
  tt_J (L1 := bk_199_3) 1 [some (.ref 97), some (.int x1), some (.int x2), some (.int x3), some (.int x4), some (.int (x5 + (1 : Int32)))] [] (cw κ cs I13 J W) (fun _ => rfl) (tt_F [some (.ref 97), some (.int x1), some (.int x2), some (.int x3), some (.int x4), some (.int (x5 + (1 : Int32)))] (And.intro rfl (And.intro rfl (And.intro rfl (And.intro rfl (And.intro rfl (And.intro rfl trivial)))))) (k3 x1 x2 x3 x4 (x5 + (1 : Int32)) I13 _ h))))) (fun h =>
  let I4 := up I 97 52 ((I 97 52) + (1 : Int32))
  tt_C (L1 := (bk_199_4.drop 10)) 10 [some (.ref 97), some (.int x1), some (.int x2), some (.int x3), some (.int x4), some (.int x5)] [] (cw κ cs I4 J W) h (fun _ => rfl) (fun _ e => m_167 (d := d) e) fun q5 h =>
  tt_C (L1 := (bk_199_4.drop 15)) 5 [some (.ref 97), some (.int x1), some (.int x2), some (.int x3), some (.int x4), some (.int x5)] [] (cw κ cs q5 J W) h (fun _ => rfl) (fun _ e => m_168 (d := d) e) fun q6 h =>
  tt_J (L1 := bk_199_5) 1 [some (.ref 97), some (.int x1), some (.int x2), some (.int x3), some (.int x4), some (.int (0 : Int32))] [] (cw κ cs q6 J W) (fun _ => rfl) (tt_F [some (.ref 97), none, none, none, some (.int x4), some (.int (0 : Int32))] (And.intro rfl (And.intro rfl (And.intro rfl trivial))) (tl_199_5  x4 (0 : Int32) q6 _ h)))
theorem tn_199_3 {d : Nat} {κ : Nat × Option Nat} {cs : Nat × Nat} {J : Nat → Nat → Int64} {W : Nat} : ∀ (n : Nat) (x1 : Int32) (x2 : Int32) (x3 : Int32) (x4 : Int32) (x5 : Int32) (I : (Nat → Nat → Int32)) (r : (Int32 × (Nat → Nat → Int32))), fx (fun _ _ _ _ _ _ => none) (bd_199_3 ) n x1 x2 x3 x4 x5 I = some r → tt (d + 2) me_199 bk_199_3 [some (.ref 97), some (.int x1), some (.int x2), some (.int x3), some (.int x4), some (.int x5)] [] (cw κ cs I J W) (.inl (some (.int r.1))) (cw κ cs r.2 J W)
  | 0 => fun _ _ _ _ _ _ _ h => nomatch h
  | n + 1 => fun x1 x2 x3 x4 x5 I r h => tb_199_3  (fx _ (bd_199_3 ) n) (tn_199_3  n) x1 x2 x3 x4 x5 I r h
theorem tl_199_3 {d : Nat} {κ : Nat × Option Nat} {cs : Nat × Nat} {J : Nat → Nat → Int64} {W : Nat} (x1 : Int32) (x2 : Int32) (x3 : Int32) (x4 : Int32) (x5 : Int32) (I : (Nat → Nat → Int32)) (r : (Int32 × (Nat → Nat → Int32))) (h : lb_199_3  x1 x2 x3 x4 x5 I = some r) : tt (d + 2) me_199 bk_199_3 [some (.ref 97), some (.int x1), some (.int x2), some (.int x3), some (.int x4), some (.int x5)] [] (cw κ cs I J W) (.inl (some (.int r.1))) (cw κ cs r.2 J W) := tn_199_3  FU x1 x2 x3 x4 x5 I r h
theorem m_199 {d : Nat} {κ : Nat × Option Nat} {cs : Nat × Nat} {J : Nat → Nat → Int64} {W : Nat} {x1 : Int32} {x2 : Int32} {x3 : Int32} {x4 : Int32} {I : (Nat → Nat → Int32)} {r : (Int32 × (Nat → Nat → Int32))} (h : f_199 x1 x2 x3 x4 I = some r) : tm (d + 2) 199 [.ref 97, .int x1, .int x2, .int x3, .int x4] (cw κ cs I J W) (.inl (some (.int r.1))) (cw κ cs r.2 J W) :=
  tm_of me_199 rfl (Nat.le_of_ble_eq_true rfl) (
  let I1 := up I 97 0 (0 : Int32)
  tt_I (L1 := bk_199_1) (L2 := (bk_199_0.drop 7)) 7 [some (.ref 97), some (.int x1), some (.int x2), some (.int x3), some (.int x4), none] [] (cw κ cs I1 J W) h (fun _ => rfl) (fun h =>
  tt_F [some (.ref 97), none, none, none, none, none] (And.intro rfl trivial) (tl_199_1   I1 _ h)) (fun h =>
  tt_C (L1 := (bk_199_0.drop 13)) 6 [some (.ref 97), some (.int x1), some (.int x2), some (.int x3), some (.int x4), none] [] (cw κ cs I1 J W) h (fun _ => rfl) (fun _ e => m_193 (d := d) e) fun q3 h =>
  tt_I (L1 := bk_199_1) (L2 := bk_199_2) 1 [some (.ref 97), some (.int x1), some (.int x2), some (.int x3), some (.int x4), none] [] (cw κ cs I1 J W) h (fun _ => rfl) (fun h =>
  tt_F [some (.ref 97), none, none, none, none, none] (And.intro rfl trivial) (tl_199_1   I1 _ h)) (fun h =>
  tt_J (L1 := bk_199_3) 1 [some (.ref 97), some (.int x1), some (.int x2), some (.int x3), some (.int x4), some (.int (0 : Int32))] [] (cw κ cs I1 J W) (fun _ => rfl) (tt_F [some (.ref 97), some (.int x1), some (.int x2), some (.int x3), some (.int x4), some (.int (0 : Int32))] (And.intro rfl (And.intro rfl (And.intro rfl (And.intro rfl (And.intro rfl (And.intro rfl trivial)))))) (tl_199_3  x1 x2 x3 x4 (0 : Int32) I1 _ h)))))
/- 200 -/
def bd_200_2 (c2 : Int32 → (Nat → Nat → Int32) → Option (Int32 × (Nat → Nat → Int32))) (x1 : Int32) (I : (Nat → Nat → Int32)) : Option (Int32 × (Nat → Nat → Int32)) :=
  (if x1 < (I 97 1) then (if ex_in (((60 : Int32) * (I 97 52)) + x1) 1200 then (if ex_in x1 60 then let I3 := up I 122 (x1).toNatClampNeg (I 125 ((((60 : Int32) * (I 97 52)) + x1)).toNatClampNeg)
  (if ex_in (((60 : Int32) * (I3 97 52)) + x1) 1200 then (if ex_in x1 60 then let I4 := up I3 124 (x1).toNatClampNeg (I3 126 ((((60 : Int32) * (I3 97 52)) + x1)).toNatClampNeg)
  (c2 (x1 + (1 : Int32)) I4) else none) else none) else none) else none) else (some ((I 97 52), I)))
def lb_200_2 : Int32 → (Nat → Nat → Int32) → Option (Int32 × (Nat → Nat → Int32)) := fx (fun _ _ => none) (bd_200_2 ) FU
def f_200 (I : (Nat → Nat → Int32)) : Option (Int32 × (Nat → Nat → Int32)) :=
  (let I1 := up I 97 0 (0 : Int32)
  (if (I1 97 52) = 0 then (some (((-1) : Int32), I1)) else (let I2 := up I1 97 52 ((I1 97 52) - (1 : Int32))
  (lb_200_2  (0 : Int32) I2))))
theorem tb_200_2 {d : Nat} {κ : Nat × Option Nat} {cs : Nat × Nat} {J : Nat → Nat → Int64} {W : Nat} (c2 : Int32 → (Nat → Nat → Int32) → Option (Int32 × (Nat → Nat → Int32))) (k2 : ∀ (x1 : Int32) (I : (Nat → Nat → Int32)) (r : (Int32 × (Nat → Nat → Int32))), c2 x1 I = some r → tt d me_200 bk_200_2 [some (.ref 97), some (.int x1)] [] (cw κ cs I J W) (.inl (some (.int r.1))) (cw κ cs r.2 J W)) (x1 : Int32) (I : (Nat → Nat → Int32)) (r : (Int32 × (Nat → Nat → Int32))) (h : bd_200_2  c2 x1 I = some r) : tt d me_200 bk_200_2 [some (.ref 97), some (.int x1)] [] (cw κ cs I J W) (.inl (some (.int r.1))) (cw κ cs r.2 J W) :=
  tt_I (L1 := (bk_200_2.drop 4)) (L2 := bk_200_3) 4 [some (.ref 97), some (.int x1)] [] (cw κ cs I J W) h (fun _ => rfl) (fun h =>
  tt_J (L1 := (bk_200_2.drop 15)) 10 [some (.ref 97), some (.int x1)] [.int (((60 : Int32) * (I 97 52)) + x1), .ref 125, .int x1, .ref 122] (cw κ cs I J W) (fun _ => rfl) (
  tt_Qi rfl h fun h =>
  let I3 := up I 122 (x1).toNatClampNeg (I 125 ((((60 : Int32) * (I 97 52)) + x1)).toNatClampNeg)
  tt_Wi rfl (Nat.le_of_ble_eq_true rfl) h fun h =>
  tt_J (L1 := (bk_200_2.drop 28)) 10 [some (.ref 97), some (.int x1)] [.int (((60 : Int32) * (I3 97 52)) + x1), .ref 126, .int x1, .ref 124] (cw κ cs I3 J W) (fun _ => rfl) (
  tt_Qi rfl h fun h =>
  let I4 := up I3 124 (x1).toNatClampNeg (I3 126 ((((60 : Int32) * (I3 97 52)) + x1)).toNatClampNeg)
  tt_Wi rfl (Nat.le_of_ble_eq_true rfl) h fun h =>
  tt_J (L1 := bk_200_2) 1 [some (.ref 97), some (.int (x1 + (1 : Int32)))] [] (cw κ cs I4 J W) (fun _ => rfl) (tt_F [some (.ref 97), some (.int (x1 + (1 : Int32)))] (And.intro rfl (And.intro rfl trivial)) (k2 (x1 + (1 : Int32)) I4 _ h))))) (fun h =>
  tt_R 3 (fun r => (.inl (some (.int r.1)))) (fun r => (cw κ cs r.2 J W)) h (fun _ => rfl))
theorem tn_200_2 {d : Nat} {κ : Nat × Option Nat} {cs : Nat × Nat} {J : Nat → Nat → Int64} {W : Nat} : ∀ (n : Nat) (x1 : Int32) (I : (Nat → Nat → Int32)) (r : (Int32 × (Nat → Nat → Int32))), fx (fun _ _ => none) (bd_200_2 ) n x1 I = some r → tt d me_200 bk_200_2 [some (.ref 97), some (.int x1)] [] (cw κ cs I J W) (.inl (some (.int r.1))) (cw κ cs r.2 J W)
  | 0 => fun _ _ _ h => nomatch h
  | n + 1 => fun x1 I r h => tb_200_2  (fx _ (bd_200_2 ) n) (tn_200_2  n) x1 I r h
theorem tl_200_2 {d : Nat} {κ : Nat × Option Nat} {cs : Nat × Nat} {J : Nat → Nat → Int64} {W : Nat} (x1 : Int32) (I : (Nat → Nat → Int32)) (r : (Int32 × (Nat → Nat → Int32))) (h : lb_200_2  x1 I = some r) : tt d me_200 bk_200_2 [some (.ref 97), some (.int x1)] [] (cw κ cs I J W) (.inl (some (.int r.1))) (cw κ cs r.2 J W) := tn_200_2  FU x1 I r h
theorem m_200 {d : Nat} {κ : Nat × Option Nat} {cs : Nat × Nat} {J : Nat → Nat → Int64} {W : Nat} {I : (Nat → Nat → Int32)} {r : (Int32 × (Nat → Nat → Int32))} (h : f_200  I = some r) : tm d 200 [.ref 97] (cw κ cs I J W) (.inl (some (.int r.1))) (cw κ cs r.2 J W) :=
  tm_of me_200 rfl (Nat.le_of_ble_eq_true rfl) (
  let I1 := up I 97 0 (0 : Int32)
  tt_I (L1 := (bk_200_0.drop 6)) (L2 := bk_200_1) 6 [some (.ref 97), none] [] (cw κ cs I1 J W) h (fun _ => rfl) (fun h =>
  tt_R 2 (fun r => (.inl (some (.int r.1)))) (fun r => (cw κ cs r.2 J W)) h (fun _ => rfl)) (fun h =>
  let I2 := up I1 97 52 ((I1 97 52) - (1 : Int32))
  tt_J (L1 := bk_200_2) 7 [some (.ref 97), some (.int (0 : Int32))] [] (cw κ cs I2 J W) (fun _ => rfl) (tt_F [some (.ref 97), some (.int (0 : Int32))] (And.intro rfl (And.intro rfl trivial)) (tl_200_2  (0 : Int32) I2 _ h))))
/- 201 -/
def lb_201_2 (s0 : Int32) (I : (Nat → Nat → Int32)) : Option (Int32 × (Nat → Nat → Int32)) :=
  (some (s0, I))
def f_201 (x1 : Int32) (I : (Nat → Nat → Int32)) : Option (Int32 × (Nat → Nat → Int32)) :=
  (let I1 := up I 97 0 (0 : Int32)
  ((f_176 x1 I1).bind fun q2 => (if q2.1 = 0 then (lb_201_2  (0 : Int32) q2.2) else (if ex_in x1 60 then (lb_201_2  (q2.2 124 (x1).toNatClampNeg) q2.2) else none))))
theorem tl_201_2 {d : Nat} {κ : Nat × Option Nat} {cs : Nat × Nat} {J : Nat → Nat → Int64} {W : Nat} (s0 : Int32) (I : (Nat → Nat → Int32)) (r : (Int32 × (Nat → Nat → Int32))) (h : lb_201_2  s0 I = some r) : tt (d + 2) me_201 bk_201_2 [none, none] [.int s0] (cw κ cs I J W) (.inl (some (.int r.1))) (cw κ cs r.2 J W) :=
  tt_R 1 (fun r => (.inl (some (.int r.1)))) (fun r => (cw κ cs r.2 J W)) h (fun _ => rfl)
theorem m_201 {d : Nat} {κ : Nat × Option Nat} {cs : Nat × Nat} {J : Nat → Nat → Int64} {W : Nat} {x1 : Int32} {I : (Nat → Nat → Int32)} {r : (Int32 × (Nat → Nat → Int32))} (h : f_201 x1 I = some r) : tm (d + 2) 201 [.ref 97, .int x1] (cw κ cs I J W) (.inl (some (.int r.1))) (cw κ cs r.2 J W) :=
  tm_of me_201 rfl (Nat.le_of_ble_eq_true rfl) (
  let I1 := up I 97 0 (0 : Int32)
  tt_C (L1 := (bk_201_0.drop 6)) 6 [some (.ref 97), some (.int x1)] [] (cw κ cs I1 J W) (show ((f_176 x1 I1).bind fun q2 => (if q2.1 = 0 then (lb_201_2  (0 : Int32) q2.2) else (if ex_in x1 60 then (lb_201_2  (q2.2 124 (x1).toNatClampNeg) q2.2) else none))) = some r from h) (fun _ => rfl) (fun _ e => m_176 (d := d) e) fun q2 h =>
  tt_I (L1 := bk_201_1) (L2 := (bk_201_0.drop 7)) 1 [some (.ref 97), some (.int x1)] [] (cw κ cs q2.2 J W) h (fun _ => rfl) (fun h =>
  tt_J (L1 := bk_201_2) 0 [some (.ref 97), some (.int x1)] [.int (0 : Int32)] (cw κ cs q2.2 J W) (fun _ => rfl) (tt_F [none, none] trivial (tl_201_2  (0 : Int32) q2.2 _ h))) (fun h =>
  tt_J (L1 := (bk_201_0.drop 10)) 2 [some (.ref 97), some (.int x1)] [.int x1, .ref 124] (cw κ cs q2.2 J W) (fun _ => rfl) (
  tt_Qi rfl h fun h =>
  tt_J (L1 := bk_201_2) 0 [some (.ref 97), some (.int x1)] [.int (q2.2 124 (x1).toNatClampNeg)] (cw κ cs q2.2 J W) (fun _ => rfl) (tt_F [none, none] trivial (tl_201_2  (q2.2 124 (x1).toNatClampNeg) q2.2 _ h)))))
/- 202 -/
def lb_202_3 (c1 : Int64 → Int32 → (Nat → Nat → Int32) → Option (Int64 × (Nat → Nat → Int32))) (x3 : Int32) (s0 : Int64) (s1 : Int64) (I : (Nat → Nat → Int32)) : Option (Int64 × (Nat → Nat → Int32)) :=
  (c1 (s0 ||| s1) (x3 + (1 : Int32)) I)
def bd_202_1 (c1 : Int64 → Int32 → (Nat → Nat → Int32) → Option (Int64 × (Nat → Nat → Int32))) (x1 : Int64) (x3 : Int32) (I : (Nat → Nat → Int32)) : Option (Int64 × (Nat → Nat → Int32)) :=
  (if x3 < (I 97 1) then (if ex_in x3 60 then (if (I 97 4) < (I 124 (x3).toNatClampNeg) then (lb_202_3 c1 x3 x1 (0 : Int64) I) else (lb_202_3 c1 x3 x1 ((1 : Int64) <<< ((x3).toInt64 &&& 63)) I)) else none) else (some (x1, I)))
def lb_202_1 : Int64 → Int32 → (Nat → Nat → Int32) → Option (Int64 × (Nat → Nat → Int32)) := fx (fun _ _ _ => none) (bd_202_1 ) FU
def f_202 (I : (Nat → Nat → Int32)) : Option (Int64 × (Nat → Nat → Int32)) :=
  (let I1 := up I 97 0 (0 : Int32)
  (lb_202_1  (0 : Int64) (0 : Int32) I1))
theorem tl_202_3 {d : Nat} {κ : Nat × Option Nat} {cs : Nat × Nat} {J : Nat → Nat → Int64} {W : Nat} (c1 : Int64 → Int32 → (Nat → Nat → Int32) → Option (Int64 × (Nat → Nat → Int32))) (k1 : ∀ (x1 : Int64) (x3 : Int32) (I : (Nat → Nat → Int32)) (r : (Int64 × (Nat → Nat → Int32))), c1 x1 x3 I = some r → tt d me_202 bk_202_1 [some (.ref 97), some (.long x1), none, some (.int x3)] [] (cw κ cs I J W) (.inl (some (.long r.1))) (cw κ cs r.2 J W)) (x3 : Int32) (s0 : Int64) (s1 : Int64) (I : (Nat → Nat → Int32)) (r : (Int64 × (Nat → Nat → Int32))) (h : lb_202_3 c1 x3 s0 s1 I = some r) : tt d me_202 bk_202_3 [some (.ref 97), none, none, some (.int x3)] [.long s1, .long s0] (cw κ cs I J W) (.inl (some (.long r.1))) (cw κ cs r.2 J W) :=
  tt_J (L1 := bk_202_1) 3 [some (.ref 97), some (.long (s0 ||| s1)), none, some (.int (x3 + (1 : Int32)))] [] (cw κ cs I J W) (fun _ => rfl) (tt_F [some (.ref 97), some (.long (s0 ||| s1)), none, some (.int (x3 + (1 : Int32)))] (And.intro rfl (And.intro rfl (And.intro rfl trivial))) (k1 (s0 ||| s1) (x3 + (1 : Int32)) I _ h))
theorem tb_202_1 {d : Nat} {κ : Nat × Option Nat} {cs : Nat × Nat} {J : Nat → Nat → Int64} {W : Nat} (c1 : Int64 → Int32 → (Nat → Nat → Int32) → Option (Int64 × (Nat → Nat → Int32))) (k1 : ∀ (x1 : Int64) (x3 : Int32) (I : (Nat → Nat → Int32)) (r : (Int64 × (Nat → Nat → Int32))), c1 x1 x3 I = some r → tt d me_202 bk_202_1 [some (.ref 97), some (.long x1), none, some (.int x3)] [] (cw κ cs I J W) (.inl (some (.long r.1))) (cw κ cs r.2 J W)) (x1 : Int64) (x3 : Int32) (I : (Nat → Nat → Int32)) (r : (Int64 × (Nat → Nat → Int32))) (h : bd_202_1  c1 x1 x3 I = some r) : tt d me_202 bk_202_1 [some (.ref 97), some (.long x1), none, some (.int x3)] [] (cw κ cs I J W) (.inl (some (.long r.1))) (cw κ cs r.2 J W) :=
  tt_I (L1 := (bk_202_1.drop 4)) (L2 := bk_202_4) 4 [some (.ref 97), some (.long x1), none, some (.int x3)] [] (cw κ cs I J W) h (fun _ => rfl) (fun h =>
  tt_J (L1 := (bk_202_1.drop 8)) 3 [some (.ref 97), some (.long x1), none, some (.int x3)] [.int x3, .ref 124, .long x1] (cw κ cs I J W) (fun _ => rfl) (
  tt_Qi rfl h fun h =>
  tt_I (L1 := bk_202_2) (L2 := (bk_202_1.drop 12)) 3 [some (.ref 97), some (.long x1), none, some (.int x3)] [.long x1] (cw κ cs I J W) h (fun _ => rfl) (fun h =>
  tt_J (L1 := bk_202_3) 0 [some (.ref 97), some (.long x1), none, some (.int x3)] [.long (0 : Int64), .long x1] (cw κ cs I J W) (fun _ => rfl) (tt_F [some (.ref 97), none, none, some (.int x3)] (And.intro rfl (And.intro rfl trivial)) (tl_202_3 c1 k1 x3 x1 (0 : Int64) I _ h))) (fun h =>
  tt_J (L1 := bk_202_3) 3 [some (.ref 97), some (.long x1), none, some (.int x3)] [.long ((1 : Int64) <<< ((x3).toInt64 &&& 63)), .long x1] (cw κ cs I J W) (fun _ => rfl) (tt_F [some (.ref 97), none, none, some (.int x3)] (And.intro rfl (And.intro rfl trivial)) (tl_202_3 c1 k1 x3 x1 ((1 : Int64) <<< ((x3).toInt64 &&& 63)) I _ h))))) (fun h =>
  tt_R 2 (fun r => (.inl (some (.long r.1)))) (fun r => (cw κ cs r.2 J W)) h (fun _ => rfl))
theorem tn_202_1 {d : Nat} {κ : Nat × Option Nat} {cs : Nat × Nat} {J : Nat → Nat → Int64} {W : Nat} : ∀ (n : Nat) (x1 : Int64) (x3 : Int32) (I : (Nat → Nat → Int32)) (r : (Int64 × (Nat → Nat → Int32))), fx (fun _ _ _ => none) (bd_202_1 ) n x1 x3 I = some r → tt d me_202 bk_202_1 [some (.ref 97), some (.long x1), none, some (.int x3)] [] (cw κ cs I J W) (.inl (some (.long r.1))) (cw κ cs r.2 J W)
  | 0 => fun _ _ _ _ h => nomatch h
  | n + 1 => fun x1 x3 I r h => tb_202_1  (fx _ (bd_202_1 ) n) (tn_202_1  n) x1 x3 I r h
theorem tl_202_1 {d : Nat} {κ : Nat × Option Nat} {cs : Nat × Nat} {J : Nat → Nat → Int64} {W : Nat} (x1 : Int64) (x3 : Int32) (I : (Nat → Nat → Int32)) (r : (Int64 × (Nat → Nat → Int32))) (h : lb_202_1  x1 x3 I = some r) : tt d me_202 bk_202_1 [some (.ref 97), some (.long x1), none, some (.int x3)] [] (cw κ cs I J W) (.inl (some (.long r.1))) (cw κ cs r.2 J W) := tn_202_1  FU x1 x3 I r h
theorem m_202 {d : Nat} {κ : Nat × Option Nat} {cs : Nat × Nat} {J : Nat → Nat → Int64} {W : Nat} {I : (Nat → Nat → Int32)} {r : (Int64 × (Nat → Nat → Int32))} (h : f_202  I = some r) : tm d 202 [.ref 97] (cw κ cs I J W) (.inl (some (.long r.1))) (cw κ cs r.2 J W) :=
  tm_of me_202 rfl (Nat.le_of_ble_eq_true rfl) (
  let I1 := up I 97 0 (0 : Int32)
  tt_J (L1 := bk_202_1) 6 [some (.ref 97), some (.long (0 : Int64)), none, some (.int (0 : Int32))] [] (cw κ cs I1 J W) (fun _ => rfl) (tt_F [some (.ref 97), some (.long (0 : Int64)), none, some (.int (0 : Int32))] (And.intro rfl (And.intro rfl (And.intro rfl trivial))) (tl_202_1  (0 : Int64) (0 : Int32) I1 _ h)))
/- 134 -/
def bd_134_97_122_123_1 (c1 : Int32 → (Nat → Nat → Int32) → Option (Nat → Nat → Int32)) (x3 : Int32) (I : (Nat → Nat → Int32)) : Option (Nat → Nat → Int32) :=
  (if x3 < (nI 60) then (if ex_in x3 60 then (if ex_in x3 60 then let I1 := up I 123 (x3).toNatClampNeg (I 122 (x3).toNatClampNeg)
  (c1 (x3 + (1 : Int32)) I1) else none) else none) else (some I))
def lb_134_97_122_123_1 : Int32 → (Nat → Nat → Int32) → Option (Nat → Nat → Int32) := fx (fun _ _ => none) (bd_134_97_122_123_1 ) FU
def f_134_97_122_123 (I : (Nat → Nat → Int32)) : Option (Nat → Nat → Int32) :=
  (lb_134_97_122_123_1  (0 : Int32) I)
theorem tb_134_97_122_123_1 {d : Nat} {κ : Nat × Option Nat} {cs : Nat × Nat} {J : Nat → Nat → Int64} {W : Nat} (c1 : Int32 → (Nat → Nat → Int32) → Option (Nat → Nat → Int32)) (k1 : ∀ (x3 : Int32) (I : (Nat → Nat → Int32)) (r : (Nat → Nat → Int32)), c1 x3 I = some r → tt d me_134 bk_134_1 [none, some (.ref 122), some (.ref 123), some (.int x3)] [] (cw κ cs I J W) (.inl none) (cw κ cs r J W)) (x3 : Int32) (I : (Nat → Nat → Int32)) (r : (Nat → Nat → Int32)) (h : bd_134_97_122_123_1  c1 x3 I = some r) : tt d me_134 bk_134_1 [none, some (.ref 122), some (.ref 123), some (.int x3)] [] (cw κ cs I J W) (.inl none) (cw κ cs r J W) :=
  tt_I (L1 := (bk_134_1.drop 4)) (L2 := bk_134_2) 4 [none, some (.ref 122), some (.ref 123), some (.int x3)] [] (cw κ cs I J W) h (fun _ => rfl) (fun h =>
  tt_J (L1 := (bk_134_1.drop 8)) 3 [none, some (.ref 122), some (.ref 123), some (.int x3)] [.int x3, .ref 122, .int x3, .ref 123] (cw κ cs I J W) (fun _ => rfl) (
  tt_Qi rfl h fun h =>
  let I1 := up I 123 (x3).toNatClampNeg (I 122 (x3).toNatClampNeg)
  tt_Wi rfl (Nat.le_of_ble_eq_true rfl) h fun h =>
  tt_J (L1 := bk_134_1) 1 [none, some (.ref 122), some (.ref 123), some (.int (x3 + (1 : Int32)))] [] (cw κ cs I1 J W) (fun _ => rfl) (tt_F [none, some (.ref 122), some (.ref 123), some (.int (x3 + (1 : Int32)))] (And.intro rfl (And.intro rfl (And.intro rfl trivial))) (k1 (x3 + (1 : Int32)) I1 _ h)))) (fun h =>
  tt_R 1 (fun r => (.inl none)) (fun r => (cw κ cs r J W)) h (fun _ => rfl))
theorem tn_134_97_122_123_1 {d : Nat} {κ : Nat × Option Nat} {cs : Nat × Nat} {J : Nat → Nat → Int64} {W : Nat} : ∀ (n : Nat) (x3 : Int32) (I : (Nat → Nat → Int32)) (r : (Nat → Nat → Int32)), fx (fun _ _ => none) (bd_134_97_122_123_1 ) n x3 I = some r → tt d me_134 bk_134_1 [none, some (.ref 122), some (.ref 123), some (.int x3)] [] (cw κ cs I J W) (.inl none) (cw κ cs r J W)
  | 0 => fun _ _ _ h => nomatch h
  | n + 1 => fun x3 I r h => tb_134_97_122_123_1  (fx _ (bd_134_97_122_123_1 ) n) (tn_134_97_122_123_1  n) x3 I r h
theorem tl_134_97_122_123_1 {d : Nat} {κ : Nat × Option Nat} {cs : Nat × Nat} {J : Nat → Nat → Int64} {W : Nat} (x3 : Int32) (I : (Nat → Nat → Int32)) (r : (Nat → Nat → Int32)) (h : lb_134_97_122_123_1  x3 I = some r) : tt d me_134 bk_134_1 [none, some (.ref 122), some (.ref 123), some (.int x3)] [] (cw κ cs I J W) (.inl none) (cw κ cs r J W) := tn_134_97_122_123_1  FU x3 I r h
theorem m_134_97_122_123 {d : Nat} {κ : Nat × Option Nat} {cs : Nat × Nat} {J : Nat → Nat → Int64} {W : Nat} {I : (Nat → Nat → Int32)} {r : (Nat → Nat → Int32)} (h : f_134_97_122_123  I = some r) : tm d 134 [.ref 97, .ref 122, .ref 123] (cw κ cs I J W) (.inl none) (cw κ cs r J W) :=
  tm_of me_134 rfl (Nat.le_of_ble_eq_true rfl) (
  tt_J (L1 := bk_134_1) 1 [some (.ref 97), some (.ref 122), some (.ref 123), some (.int (0 : Int32))] [] (cw κ cs I J W) (fun _ => rfl) (tt_F [none, some (.ref 122), some (.ref 123), some (.int (0 : Int32))] (And.intro rfl (And.intro rfl (And.intro rfl trivial))) (tl_134_97_122_123_1  (0 : Int32) I _ h)))
/- 203 -/
def f_203 (I : (Nat → Nat → Int32)) : Option (Nat → Nat → Int32) :=
  (let I1 := up I 97 0 (0 : Int32)
  ((f_134_97_122_123  I1).bind fun q2 => (some q2)))
theorem m_203 {d : Nat} {κ : Nat × Option Nat} {cs : Nat × Nat} {J : Nat → Nat → Int64} {W : Nat} {I : (Nat → Nat → Int32)} {r : (Nat → Nat → Int32)} (h : f_203  I = some r) : tm (d + 1) 203 [.ref 97] (cw κ cs I J W) (.inl none) (cw κ cs r J W) :=
  tm_of me_203 rfl (Nat.le_of_ble_eq_true rfl) (
  let I1 := up I 97 0 (0 : Int32)
  tt_C (L1 := (bk_203_0.drop 9)) 9 [some (.ref 97)] [] (cw κ cs I1 J W) (show ((f_134_97_122_123  I1).bind fun q2 => (some q2)) = some r from h) (fun _ => rfl) (fun _ e => m_134_97_122_123 (d := d) e) fun q2 h =>
  tt_R 1 (fun r => (.inl none)) (fun r => (cw κ cs r J W)) h (fun _ => rfl))
/- 204 -/
def bd_204_1 (c1 : Int32 → (Nat → Nat → Int32) → Option (Int32 × (Nat → Nat → Int32))) (x5 : Int32) (I : (Nat → Nat → Int32)) : Option (Int32 × (Nat → Nat → Int32)) :=
  (if x5 < (I 97 1) then ((f_170 x5 I).bind fun q3 => (if ex_in q3 60 then (if ex_in x5 60 then (if (I 122 (q3).toNatClampNeg) = (I 123 (x5).toNatClampNeg) then (c1 (x5 + (1 : Int32)) I) else (some ((0 : Int32), I))) else none) else none)) else (some ((1 : Int32), I)))
def lb_204_1 : Int32 → (Nat → Nat → Int32) → Option (Int32 × (Nat → Nat → Int32)) := fx (fun _ _ => none) (bd_204_1 ) FU
def f_204 (x1 : Int32) (x2 : Int32) (x3 : Int32) (x4 : Int32) (I : (Nat → Nat → Int32)) : Option (Int32 × (Nat → Nat → Int32)) :=
  ((f_167 x1 x2 I).bind fun q1 => ((f_168 x4 x4 x3 q1).bind fun q2 => (lb_204_1  (0 : Int32) q2)))
theorem tb_204_1 {d : Nat} {κ : Nat × Option Nat} {cs : Nat × Nat} {J : Nat → Nat → Int64} {W : Nat} (c1 : Int32 → (Nat → Nat → Int32) → Option (Int32 × (Nat → Nat → Int32))) (k1 : ∀ (x5 : Int32) (I : (Nat → Nat → Int32)) (r : (Int32 × (Nat → Nat → Int32))), c1 x5 I = some r → tt (d + 2) me_204 bk_204_1 [some (.ref 97), none, none, none, none, some (.int x5)] [] (cw κ cs I J W) (.inl (some (.int r.1))) (cw κ cs r.2 J W)) (x5 : Int32) (I : (Nat → Nat → Int32)) (r : (Int32 × (Nat → Nat → Int32))) (h : bd_204_1  c1 x5 I = some r) : tt (d + 2) me_204 bk_204_1 [some (.ref 97), none, none, none, none, some (.int x5)] [] (cw κ cs I J W) (.inl (some (.int r.1))) (cw κ cs r.2 J W) :=
  tt_I (L1 := (bk_204_1.drop 4)) (L2 := bk_204_3) 4 [some (.ref 97), none, none, none, none, some (.int x5)] [] (cw κ cs I J W) h (fun _ => rfl) (fun h =>
  tt_C (L1 := (bk_204_1.drop 9)) 5 [some (.ref 97), none, none, none, none, some (.int x5)] [.ref 122] (cw κ cs I J W) h (fun _ => rfl) (fun _ e => m_170 (d := d + 1) e) fun q3 h =>
  tt_Qi rfl h fun h =>
  tt_J (L1 := (bk_204_1.drop 13)) 2 [some (.ref 97), none, none, none, none, some (.int x5)] [.int x5, .ref 123, .int (I 122 (q3).toNatClampNeg)] (cw κ cs I J W) (fun _ => rfl) (
  tt_Qi rfl h fun h =>
  tt_I (L1 := bk_204_2) (L2 := (bk_204_1.drop 15)) 1 [some (.ref 97), none, none, none, none, some (.int x5)] [] (cw κ cs I J W) h (fun _ => rfl) (fun h =>
  tt_J (L1 := bk_204_1) 1 [some (.ref 97), none, none, none, none, some (.int (x5 + (1 : Int32)))] [] (cw κ cs I J W) (fun _ => rfl) (tt_F [some (.ref 97), none, none, none, none, some (.int (x5 + (1 : Int32)))] (And.intro rfl (And.intro rfl trivial)) (k1 (x5 + (1 : Int32)) I _ h))) (fun h =>
  tt_R 2 (fun r => (.inl (some (.int r.1)))) (fun r => (cw κ cs r.2 J W)) h (fun _ => rfl)))) (fun h =>
  tt_R 2 (fun r => (.inl (some (.int r.1)))) (fun r => (cw κ cs r.2 J W)) h (fun _ => rfl))
theorem tn_204_1 {d : Nat} {κ : Nat × Option Nat} {cs : Nat × Nat} {J : Nat → Nat → Int64} {W : Nat} : ∀ (n : Nat) (x5 : Int32) (I : (Nat → Nat → Int32)) (r : (Int32 × (Nat → Nat → Int32))), fx (fun _ _ => none) (bd_204_1 ) n x5 I = some r → tt (d + 2) me_204 bk_204_1 [some (.ref 97), none, none, none, none, some (.int x5)] [] (cw κ cs I J W) (.inl (some (.int r.1))) (cw κ cs r.2 J W)
  | 0 => fun _ _ _ h => nomatch h
  | n + 1 => fun x5 I r h => tb_204_1  (fx _ (bd_204_1 ) n) (tn_204_1  n) x5 I r h
theorem tl_204_1 {d : Nat} {κ : Nat × Option Nat} {cs : Nat × Nat} {J : Nat → Nat → Int64} {W : Nat} (x5 : Int32) (I : (Nat → Nat → Int32)) (r : (Int32 × (Nat → Nat → Int32))) (h : lb_204_1  x5 I = some r) : tt (d + 2) me_204 bk_204_1 [some (.ref 97), none, none, none, none, some (.int x5)] [] (cw κ cs I J W) (.inl (some (.int r.1))) (cw κ cs r.2 J W) := tn_204_1  FU x5 I r h
theorem m_204 {d : Nat} {κ : Nat × Option Nat} {cs : Nat × Nat} {J : Nat → Nat → Int64} {W : Nat} {x1 : Int32} {x2 : Int32} {x3 : Int32} {x4 : Int32} {I : (Nat → Nat → Int32)} {r : (Int32 × (Nat → Nat → Int32))} (h : f_204 x1 x2 x3 x4 I = some r) : tm (d + 2) 204 [.ref 97, .int x1, .int x2, .int x3, .int x4] (cw κ cs I J W) (.inl (some (.int r.1))) (cw κ cs r.2 J W) :=
  tm_of me_204 rfl (Nat.le_of_ble_eq_true rfl) (
  tt_C (L1 := (bk_204_0.drop 4)) 4 [some (.ref 97), some (.int x1), some (.int x2), some (.int x3), some (.int x4), none] [] (cw κ cs I J W) h (fun _ => rfl) (fun _ e => m_167 (d := d) e) fun q1 h =>
  tt_C (L1 := (bk_204_0.drop 9)) 5 [some (.ref 97), some (.int x1), some (.int x2), some (.int x3), some (.int x4), none] [] (cw κ cs q1 J W) h (fun _ => rfl) (fun _ e => m_168 (d := d) e) fun q2 h =>
  tt_J (L1 := bk_204_1) 1 [some (.ref 97), some (.int x1), some (.int x2), some (.int x3), some (.int x4), some (.int (0 : Int32))] [] (cw κ cs q2 J W) (fun _ => rfl) (tt_F [some (.ref 97), none, none, none, none, some (.int (0 : Int32))] (And.intro rfl (And.intro rfl trivial)) (tl_204_1  (0 : Int32) q2 _ h)))
/- 205 -/
def lb_205_10 (s0 : Int32) (I : (Nat → Nat → Int32)) : Option (Int32 × (Nat → Nat → Int32)) :=
  (some (s0, I))
def lb_205_7 (c5 : Int32 → Int32 → Int32 → Int32 → (Nat → Nat → Int32) → Option (Int32 × (Nat → Nat → Int32))) (x1 : Int32) (x2 : Int32) (x3 : Int32) (x4 : Int32) (I : (Nat → Nat → Int32)) : Option (Int32 × (Nat → Nat → Int32)) :=
  (c5 x1 x2 x3 (x4 + (1 : Int32)) I)
def bd_205_5 (c5 : Int32 → Int32 → Int32 → Int32 → (Nat → Nat → Int32) → Option (Int32 × (Nat → Nat → Int32))) (x1 : Int32) (x2 : Int32) (x3 : Int32) (x4 : Int32) (I : (Nat → Nat → Int32)) : Option (Int32 × (Nat → Nat → Int32)) :=
  (if x4 < (1296 : Int32) then ((f_193 (x4 / (216 : Int32)) ((x4 / (36 : Int32)) - (x4 / (36 : Int32)) / (6 : Int32) * (6 : Int32)) ((x4 / (6 : Int32)) - (x4 / (6 : Int32)) / (6 : Int32) * (6 : Int32)) (x4 - x4 / (6 : Int32) * (6 : Int32)) I).bind fun q3 => (if q3 = 0 then (lb_205_7 c5 x1 x2 x3 x4 I) else ((f_204 (x4 / (216 : Int32)) ((x4 / (36 : Int32)) - (x4 / (36 : Int32)) / (6 : Int32) * (6 : Int32)) ((x4 / (6 : Int32)) - (x4 / (6 : Int32)) / (6 : Int32) * (6 : Int32)) (x4 - x4 / (6 : Int32) * (6 : Int32)) I).bind fun q4 => (if q4.1 = 0 then (lb_205_7 c5 x1 x2 x3 x4 q4.2) else (if x3 = ((-1) : Int32) then (lb_205_7 c5 x1 (x2 + (1 : Int32)) x4 x4 q4.2) else (lb_205_7 c5 x1 (x2 + (1 : Int32)) x3 x4 q4.2)))))) else (if x1 = 0 then (lb_205_10  x2 I) else (lb_205_10  x3 I)))
def lb_205_5 : Int32 → Int32 → Int32 → Int32 → (Nat → Nat → Int32) → Option (Int32 × (Nat → Nat → Int32)) := fx (fun _ _ _ _ _ => none) (bd_205_5 ) FU
def lb_205_3 (x1 : Int32) (s1 : Int32) (I : (Nat → Nat → Int32)) : Option (Int32 × (Nat → Nat → Int32)) :=
  ((f_132 s1 (1 : Int32) I).bind fun q2 => (if q2.1 = 0 then (some ((0 : Int32), q2.2)) else (lb_205_5  x1 (0 : Int32) ((-1) : Int32) (0 : Int32) q2.2)))
def lb_205_1 (x1 : Int32) (I : (Nat → Nat → Int32)) : Option (Int32 × (Nat → Nat → Int32)) :=
  (lb_205_3  x1 (1 : Int32) I)
def f_205 (x1 : Int32) (I : (Nat → Nat → Int32)) : Option (Int32 × (Nat → Nat → Int32)) :=
  (let I1 := up I 97 0 (0 : Int32)
  (if x1 = 0 then (lb_205_1  x1 I1) else (if x1 = (1 : Int32) then (lb_205_1  x1 I1) else (lb_205_3  x1 (0 : Int32) I1))))
theorem tl_205_10 {d : Nat} {κ : Nat × Option Nat} {cs : Nat × Nat} {J : Nat → Nat → Int64} {W : Nat} (s0 : Int32) (I : (Nat → Nat → Int32)) (r : (Int32 × (Nat → Nat → Int32))) (h : lb_205_10  s0 I = some r) : tt (d + 3) me_205 bk_205_10 [none, none, none, none, none] [.int s0] (cw κ cs I J W) (.inl (some (.int r.1))) (cw κ cs r.2 J W) :=
  tt_R 1 (fun r => (.inl (some (.int r.1)))) (fun r => (cw κ cs r.2 J W)) h (fun _ => rfl)
theorem tl_205_7 {d : Nat} {κ : Nat × Option Nat} {cs : Nat × Nat} {J : Nat → Nat → Int64} {W : Nat} (c5 : Int32 → Int32 → Int32 → Int32 → (Nat → Nat → Int32) → Option (Int32 × (Nat → Nat → Int32))) (k5 : ∀ (x1 : Int32) (x2 : Int32) (x3 : Int32) (x4 : Int32) (I : (Nat → Nat → Int32)) (r : (Int32 × (Nat → Nat → Int32))), c5 x1 x2 x3 x4 I = some r → tt (d + 3) me_205 bk_205_5 [some (.ref 97), some (.int x1), some (.int x2), some (.int x3), some (.int x4)] [] (cw κ cs I J W) (.inl (some (.int r.1))) (cw κ cs r.2 J W)) (x1 : Int32) (x2 : Int32) (x3 : Int32) (x4 : Int32) (I : (Nat → Nat → Int32)) (r : (Int32 × (Nat → Nat → Int32))) (h : lb_205_7 c5 x1 x2 x3 x4 I = some r) : tt (d + 3) me_205 bk_205_7 [some (.ref 97), some (.int x1), some (.int x2), some (.int x3), some (.int x4)] [] (cw κ cs I J W) (.inl (some (.int r.1))) (cw κ cs r.2 J W) :=
  tt_J (L1 := bk_205_5) 1 [some (.ref 97), some (.int x1), some (.int x2), some (.int x3), some (.int (x4 + (1 : Int32)))] [] (cw κ cs I J W) (fun _ => rfl) (tt_F [some (.ref 97), some (.int x1), some (.int x2), some (.int x3), some (.int (x4 + (1 : Int32)))] (And.intro rfl (And.intro rfl (And.intro rfl (And.intro rfl (And.intro rfl trivial))))) (k5 x1 x2 x3 (x4 + (1 : Int32)) I _ h))
theorem tb_205_5 {d : Nat} {κ : Nat × Option Nat} {cs : Nat × Nat} {J : Nat → Nat → Int64} {W : Nat} (c5 : Int32 → Int32 → Int32 → Int32 → (Nat → Nat → Int32) → Option (Int32 × (Nat → Nat → Int32))) (k5 : ∀ (x1 : Int32) (x2 : Int32) (x3 : Int32) (x4 : Int32) (I : (Nat → Nat → Int32)) (r : (Int32 × (Nat → Nat → Int32))), c5 x1 x2 x3 x4 I = some r → tt (d + 3) me_205 bk_205_5 [some (.ref 97), some (.int x1), some (.int x2), some (.int x3), some (.int x4)] [] (cw κ cs I J W) (.inl (some (.int r.1))) (cw κ cs r.2 J W)) (x1 : Int32) (x2 : Int32) (x3 : Int32) (x4 : Int32) (I : (Nat → Nat → Int32)) (r : (Int32 × (Nat → Nat → Int32))) (h : bd_205_5  c5 x1 x2 x3 x4 I = some r) : tt (d + 3) me_205 bk_205_5 [some (.ref 97), some (.int x1), some (.int x2), some (.int x3), some (.int x4)] [] (cw κ cs I J W) (.inl (some (.int r.1))) (cw κ cs r.2 J W) :=
  tt_I (L1 := (bk_205_5.drop 3)) (L2 := bk_205_8) 3 [some (.ref 97), some (.int x1), some (.int x2), some (.int x3), some (.int x4)] [] (cw κ cs I J W) h (fun _ => rfl) (fun h =>
  tt_C (L1 := (bk_205_5.drop 21)) 18 [some (.ref 97), some (.int x1), some (.int x2), some (.int x3), some (.int x4)] [] (cw κ cs I J W) h (fun _ => rfl) (fun _ e => m_193 (d := d + 1) e) fun q3 h =>
  tt_I (L1 := bk_205_7) (L2 := (bk_205_5.drop 22)) 1 [some (.ref 97), some (.int x1), some (.int x2), some (.int x3), some (.int x4)] [] (cw κ cs I J W) h (fun _ => rfl) (fun h =>
  tt_F [some (.ref 97), some (.int x1), some (.int x2), some (.int x3), some (.int x4)] (And.intro rfl (And.intro rfl (And.intro rfl (And.intro rfl (And.intro rfl trivial))))) (tl_205_7 c5 k5 x1 x2 x3 x4 I _ h)) (fun h =>
  tt_C (L1 := (bk_205_5.drop 40)) 18 [some (.ref 97), some (.int x1), some (.int x2), some (.int x3), some (.int x4)] [] (cw κ cs I J W) h (fun _ => rfl) (fun _ e => m_204 (d := d) e) fun q4 h =>
  tt_I (L1 := (bk_205_5.drop 41)) (L2 := bk_205_6) 1 [some (.ref 97), some (.int x1), some (.int x2), some (.int x3), some (.int x4)] [] (cw κ cs q4.2 J W) h (fun _ => rfl) (fun h =>
  tt_J (L1 := bk_205_7) 0 [some (.ref 97), some (.int x1), some (.int x2), some (.int x3), some (.int x4)] [] (cw κ cs q4.2 J W) (fun _ => rfl) (tt_F [some (.ref 97), some (.int x1), some (.int x2), some (.int x3), some (.int x4)] (And.intro rfl (And.intro rfl (And.intro rfl (And.intro rfl (And.intro rfl trivial))))) (tl_205_7 c5 k5 x1 x2 x3 x4 q4.2 _ h))) (fun h =>
  tt_I (L1 := (bk_205_6.drop 4)) (L2 := bk_205_7) 4 [some (.ref 97), some (.int x1), some (.int (x2 + (1 : Int32))), some (.int x3), some (.int x4)] [] (cw κ cs q4.2 J W) h (fun _ => rfl) (fun h =>
  tt_J (L1 := bk_205_7) 1 [some (.ref 97), some (.int x1), some (.int (x2 + (1 : Int32))), some (.int x4), some (.int x4)] [] (cw κ cs q4.2 J W) (fun _ => rfl) (tt_F [some (.ref 97), some (.int x1), some (.int (x2 + (1 : Int32))), some (.int x4), some (.int x4)] (And.intro rfl (And.intro rfl (And.intro rfl (And.intro rfl (And.intro rfl trivial))))) (tl_205_7 c5 k5 x1 (x2 + (1 : Int32)) x4 x4 q4.2 _ h))) (fun h =>
  tt_F [some (.ref 97), some (.int x1), some (.int (x2 + (1 : Int32))), some (.int x3), some (.int x4)] (And.intro rfl (And.intro rfl (And.intro rfl (And.intro rfl (And.intro rfl trivial))))) (tl_205_7 c5 k5 x1 (x2 + (1 : Int32)) x3 x4 q4.2 _ h))))) (fun h =>
  tt_I (L1 := (bk_205_8.drop 2)) (L2 := bk_205_9) 2 [some (.ref 97), some (.int x1), some (.int x2), some (.int x3), some (.int x4)] [] (cw κ cs I J W) h (fun _ => rfl) (fun h =>
  tt_J (L1 := bk_205_10) 1 [some (.ref 97), some (.int x1), some (.int x2), some (.int x3), some (.int x4)] [.int x2] (cw κ cs I J W) (fun _ => rfl) (tt_F [none, none, none, none, none] trivial (tl_205_10  x2 I _ h))) (fun h =>
  tt_J (L1 := bk_205_10) 0 [some (.ref 97), some (.int x1), some (.int x2), some (.int x3), some (.int x4)] [.int x3] (cw κ cs I J W) (fun _ => rfl) (tt_F [none, none, none, none, none] trivial (tl_205_10  x3 I _ h))))
theorem tn_205_5 {d : Nat} {κ : Nat × Option Nat} {cs : Nat × Nat} {J : Nat → Nat → Int64} {W : Nat} : ∀ (n : Nat) (x1 : Int32) (x2 : Int32) (x3 : Int32) (x4 : Int32) (I : (Nat → Nat → Int32)) (r : (Int32 × (Nat → Nat → Int32))), fx (fun _ _ _ _ _ => none) (bd_205_5 ) n x1 x2 x3 x4 I = some r → tt (d + 3) me_205 bk_205_5 [some (.ref 97), some (.int x1), some (.int x2), some (.int x3), some (.int x4)] [] (cw κ cs I J W) (.inl (some (.int r.1))) (cw κ cs r.2 J W)
  | 0 => fun _ _ _ _ _ _ h => nomatch h
  | n + 1 => fun x1 x2 x3 x4 I r h => tb_205_5  (fx _ (bd_205_5 ) n) (tn_205_5  n) x1 x2 x3 x4 I r h
theorem tl_205_5 {d : Nat} {κ : Nat × Option Nat} {cs : Nat × Nat} {J : Nat → Nat → Int64} {W : Nat} (x1 : Int32) (x2 : Int32) (x3 : Int32) (x4 : Int32) (I : (Nat → Nat → Int32)) (r : (Int32 × (Nat → Nat → Int32))) (h : lb_205_5  x1 x2 x3 x4 I = some r) : tt (d + 3) me_205 bk_205_5 [some (.ref 97), some (.int x1), some (.int x2), some (.int x3), some (.int x4)] [] (cw κ cs I J W) (.inl (some (.int r.1))) (cw κ cs r.2 J W) := tn_205_5  FU x1 x2 x3 x4 I r h
theorem tl_205_3 {d : Nat} {κ : Nat × Option Nat} {cs : Nat × Nat} {J : Nat → Nat → Int64} {W : Nat} (x1 : Int32) (s1 : Int32) (I : (Nat → Nat → Int32)) (r : (Int32 × (Nat → Nat → Int32))) (h : lb_205_3  x1 s1 I = some r) : tt (d + 3) me_205 bk_205_3 [some (.ref 97), some (.int x1), none, none, none] [.int s1, .ref 97] (cw κ cs I J W) (.inl (some (.int r.1))) (cw κ cs r.2 J W) :=
  tt_C (L1 := (bk_205_3.drop 2)) 2 [some (.ref 97), some (.int x1), none, none, none] [] (cw κ cs I J W) h (fun _ => rfl) (fun _ e => m_132 (d := d + 2) e) fun q2 h =>
  tt_I (L1 := (bk_205_3.drop 3)) (L2 := bk_205_4) 1 [some (.ref 97), some (.int x1), none, none, none] [] (cw κ cs q2.2 J W) h (fun _ => rfl) (fun h =>
  tt_R 2 (fun r => (.inl (some (.int r.1)))) (fun r => (cw κ cs r.2 J W)) h (fun _ => rfl)) (fun h =>
  tt_J (L1 := bk_205_5) 5 [some (.ref 97), some (.int x1), some (.int (0 : Int32)), some (.int ((-1) : Int32)), some (.int (0 : Int32))] [] (cw κ cs q2.2 J W) (fun _ => rfl) (tt_F [some (.ref 97), some (.int x1), some (.int (0 : Int32)), some (.int ((-1) : Int32)), some (.int (0 : Int32))] (And.intro rfl (And.intro rfl (And.intro rfl (And.intro rfl (And.intro rfl trivial))))) (tl_205_5  x1 (0 : Int32) ((-1) : Int32) (0 : Int32) q2.2 _ h)))
theorem tl_205_1 {d : Nat} {κ : Nat × Option Nat} {cs : Nat × Nat} {J : Nat → Nat → Int64} {W : Nat} (x1 : Int32) (I : (Nat → Nat → Int32)) (r : (Int32 × (Nat → Nat → Int32))) (h : lb_205_1  x1 I = some r) : tt (d + 3) me_205 bk_205_1 [some (.ref 97), some (.int x1), none, none, none] [.ref 97] (cw κ cs I J W) (.inl (some (.int r.1))) (cw κ cs r.2 J W) :=
  tt_J (L1 := bk_205_3) 1 [some (.ref 97), some (.int x1), none, none, none] [.int (1 : Int32), .ref 97] (cw κ cs I J W) (fun _ => rfl) (tt_F [some (.ref 97), some (.int x1), none, none, none] (And.intro rfl (And.intro rfl trivial)) (tl_205_3  x1 (1 : Int32) I _ h))
theorem m_205 {d : Nat} {κ : Nat × Option Nat} {cs : Nat × Nat} {J : Nat → Nat → Int64} {W : Nat} {x1 : Int32} {I : (Nat → Nat → Int32)} {r : (Int32 × (Nat → Nat → Int32))} (h : f_205 x1 I = some r) : tm (d + 3) 205 [.ref 97, .int x1] (cw κ cs I J W) (.inl (some (.int r.1))) (cw κ cs r.2 J W) :=
  tm_of me_205 rfl (Nat.le_of_ble_eq_true rfl) (
  let I1 := up I 97 0 (0 : Int32)
  tt_I (L1 := bk_205_1) (L2 := (bk_205_0.drop 6)) 6 [some (.ref 97), some (.int x1), none, none, none] [.ref 97] (cw κ cs I1 J W) h (fun _ => rfl) (fun h =>
  tt_F [some (.ref 97), some (.int x1), none, none, none] (And.intro rfl (And.intro rfl trivial)) (tl_205_1  x1 I1 _ h)) (fun h =>
  tt_I (L1 := bk_205_1) (L2 := bk_205_2) 3 [some (.ref 97), some (.int x1), none, none, none] [.ref 97] (cw κ cs I1 J W) h (fun _ => rfl) (fun h =>
  tt_F [some (.ref 97), some (.int x1), none, none, none] (And.intro rfl (And.intro rfl trivial)) (tl_205_1  x1 I1 _ h)) (fun h =>
  tt_J (L1 := bk_205_3) 0 [some (.ref 97), some (.int x1), none, none, none] [.int (0 : Int32), .ref 97] (cw κ cs I1 J W) (fun _ => rfl) (tt_F [some (.ref 97), some (.int x1), none, none, none] (And.intro rfl (And.intro rfl trivial)) (tl_205_3  x1 (0 : Int32) I1 _ h)))))
/- 206 -/
def lb_206_1 (I : (Nat → Nat → Int32)) : Option (Int32 × (Nat → Nat → Int32)) :=
  (some ((0 : Int32), I))
def lb_206_5 (c3 : Int32 → Int32 → Int32 → Int32 → (Nat → Nat → Int32) → Option (Int32 × (Nat → Nat → Int32))) (x2 : Int32) (x4 : Int32) (x6 : Int32) (s0 : Int32) (s1 : Int32) (I : (Nat → Nat → Int32)) : Option (Int32 × (Nat → Nat → Int32)) :=
  (c3 x2 x4 (s0 + s1) (x6 + (1 : Int32)) I)
def bd_206_3 (c3 : Int32 → Int32 → Int32 → Int32 → (Nat → Nat → Int32) → Option (Int32 × (Nat → Nat → Int32))) (x2 : Int32) (x4 : Int32) (x5 : Int32) (x6 : Int32) (I : (Nat → Nat → Int32)) : Option (Int32 × (Nat → Nat → Int32)) :=
  (if x6 < x2 then (if (I 97 1) = 0 then none else (if ex_in (((((x4 * (1103515245 : Int32)) + (12345 : Int32)) >>> ((16 : Int32) &&& 31)) &&& (32767 : Int32)) - ((((x4 * (1103515245 : Int32)) + (12345 : Int32)) >>> ((16 : Int32) &&& 31)) &&& (32767 : Int32)) / (I 97 1) * (I 97 1)) 60 then (if (I 116 ((((((x4 * (1103515245 : Int32)) + (12345 : Int32)) >>> ((16 : Int32) &&& 31)) &&& (32767 : Int32)) - ((((x4 * (1103515245 : Int32)) + (12345 : Int32)) >>> ((16 : Int32) &&& 31)) &&& (32767 : Int32)) / (I 97 1) * (I 97 1))).toNatClampNeg) = (I 97 5) then (lb_206_5 c3 x2 ((x4 * (1103515245 : Int32)) + (12345 : Int32)) x6 x5 (1 : Int32) I) else (lb_206_5 c3 x2 ((x4 * (1103515245 : Int32)) + (12345 : Int32)) x6 x5 (0 : Int32) I)) else none)) else (some (x5, I)))
def lb_206_3 : Int32 → Int32 → Int32 → Int32 → (Nat → Nat → Int32) → Option (Int32 × (Nat → Nat → Int32)) := fx (fun _ _ _ _ _ => none) (bd_206_3 ) FU
def f_206 (x1 : Int32) (x2 : Int32) (x3 : Int32) (I : (Nat → Nat → Int32)) : Option (Int32 × (Nat → Nat → Int32)) :=
  (let I1 := up I 97 0 (0 : Int32)
  ((f_133 x2 (0 : Int32) (60 : Int32) ).bind fun q2 => ((f_132 q2 (1 : Int32) I1).bind fun q3 => (if q3.1 = 0 then (lb_206_1   q3.2) else ((f_178 x3 (1 : Int32) q3.2).bind fun q4 => (if q4.1 = 0 then (lb_206_1   q4.2) else ((f_183 x3 q4.2).bind fun q5 => (lb_206_3  x2 x1 (0 : Int32) (0 : Int32) q5))))))))
theorem tl_206_1 {d : Nat} {κ : Nat × Option Nat} {cs : Nat × Nat} {J : Nat → Nat → Int64} {W : Nat} (I : (Nat → Nat → Int32)) (r : (Int32 × (Nat → Nat → Int32))) (h : lb_206_1   I = some r) : tt (d + 4) me_206 bk_206_1 [none, none, none, none, none, none, none] [] (cw κ cs I J W) (.inl (some (.int r.1))) (cw κ cs r.2 J W) :=
  tt_R 2 (fun r => (.inl (some (.int r.1)))) (fun r => (cw κ cs r.2 J W)) h (fun _ => rfl)
theorem tl_206_5 {d : Nat} {κ : Nat × Option Nat} {cs : Nat × Nat} {J : Nat → Nat → Int64} {W : Nat} (c3 : Int32 → Int32 → Int32 → Int32 → (Nat → Nat → Int32) → Option (Int32 × (Nat → Nat → Int32))) (k3 : ∀ (x2 : Int32) (x4 : Int32) (x5 : Int32) (x6 : Int32) (I : (Nat → Nat → Int32)) (r : (Int32 × (Nat → Nat → Int32))), c3 x2 x4 x5 x6 I = some r → tt (d + 4) me_206 bk_206_3 [some (.ref 97), none, some (.int x2), none, some (.int x4), some (.int x5), some (.int x6)] [] (cw κ cs I J W) (.inl (some (.int r.1))) (cw κ cs r.2 J W)) (x2 : Int32) (x4 : Int32) (x6 : Int32) (s0 : Int32) (s1 : Int32) (I : (Nat → Nat → Int32)) (r : (Int32 × (Nat → Nat → Int32))) (h : lb_206_5 c3 x2 x4 x6 s0 s1 I = some r) : tt (d + 4) me_206 bk_206_5 [some (.ref 97), none, some (.int x2), none, some (.int x4), none, some (.int x6)] [.int s1, .int s0] (cw κ cs I J W) (.inl (some (.int r.1))) (cw κ cs r.2 J W) :=
  tt_J (L1 := bk_206_3) 3 [some (.ref 97), none, some (.int x2), none, some (.int x4), some (.int (s0 + s1)), some (.int (x6 + (1 : Int32)))] [] (cw κ cs I J W) (fun _ => rfl) (tt_F [some (.ref 97), none, some (.int x2), none, some (.int x4), some (.int (s0 + s1)), some (.int (x6 + (1 : Int32)))] (And.intro rfl (And.intro rfl (And.intro rfl (And.intro rfl (And.intro rfl trivial))))) (k3 x2 x4 (s0 + s1) (x6 + (1 : Int32)) I _ h))
theorem tb_206_3 {d : Nat} {κ : Nat × Option Nat} {cs : Nat × Nat} {J : Nat → Nat → Int64} {W : Nat} (c3 : Int32 → Int32 → Int32 → Int32 → (Nat → Nat → Int32) → Option (Int32 × (Nat → Nat → Int32))) (k3 : ∀ (x2 : Int32) (x4 : Int32) (x5 : Int32) (x6 : Int32) (I : (Nat → Nat → Int32)) (r : (Int32 × (Nat → Nat → Int32))), c3 x2 x4 x5 x6 I = some r → tt (d + 4) me_206 bk_206_3 [some (.ref 97), none, some (.int x2), none, some (.int x4), some (.int x5), some (.int x6)] [] (cw κ cs I J W) (.inl (some (.int r.1))) (cw κ cs r.2 J W)) (x2 : Int32) (x4 : Int32) (x5 : Int32) (x6 : Int32) (I : (Nat → Nat → Int32)) (r : (Int32 × (Nat → Nat → Int32))) (h : bd_206_3  c3 x2 x4 x5 x6 I = some r) : tt (d + 4) me_206 bk_206_3 [some (.ref 97), none, some (.int x2), none, some (.int x4), some (.int x5), some (.int x6)] [] (cw κ cs I J W) (.inl (some (.int r.1))) (cw κ cs r.2 J W) :=
  tt_I (L1 := (bk_206_3.drop 3)) (L2 := bk_206_6) 3 [some (.ref 97), none, some (.int x2), none, some (.int x4), some (.int x5), some (.int x6)] [] (cw κ cs I J W) h (fun _ => rfl) (fun h =>
  tt_J (L1 := (bk_206_3.drop 19)) 15 [some (.ref 97), none, some (.int x2), none, some (.int ((x4 * (1103515245 : Int32)) + (12345 : Int32))), some (.int x5), some (.int x6)] [.int (I 97 1), .int ((((x4 * (1103515245 : Int32)) + (12345 : Int32)) >>> ((16 : Int32) &&& 31)) &&& (32767 : Int32)), .ref 116, .int x5] (cw κ cs I J W) (fun _ => rfl) (
  tt_Dr h fun h =>
  tt_Qi rfl h fun h =>
  tt_I (L1 := (bk_206_3.drop 24)) (L2 := bk_206_4) 3 [some (.ref 97), none, some (.int x2), none, some (.int ((x4 * (1103515245 : Int32)) + (12345 : Int32))), some (.int x5), some (.int x6)] [.int x5] (cw κ cs I J W) h (fun _ => rfl) (fun h =>
  tt_J (L1 := bk_206_5) 1 [some (.ref 97), none, some (.int x2), none, some (.int ((x4 * (1103515245 : Int32)) + (12345 : Int32))), some (.int x5), some (.int x6)] [.int (1 : Int32), .int x5] (cw κ cs I J W) (fun _ => rfl) (tt_F [some (.ref 97), none, some (.int x2), none, some (.int ((x4 * (1103515245 : Int32)) + (12345 : Int32))), none, some (.int x6)] (And.intro rfl (And.intro rfl (And.intro rfl (And.intro rfl trivial)))) (tl_206_5 c3 k3 x2 ((x4 * (1103515245 : Int32)) + (12345 : Int32)) x6 x5 (1 : Int32) I _ h))) (fun h =>
  tt_J (L1 := bk_206_5) 0 [some (.ref 97), none, some (.int x2), none, some (.int ((x4 * (1103515245 : Int32)) + (12345 : Int32))), some (.int x5), some (.int x6)] [.int (0 : Int32), .int x5] (cw κ cs I J W) (fun _ => rfl) (tt_F [some (.ref 97), none, some (.int x2), none, some (.int ((x4 * (1103515245 : Int32)) + (12345 : Int32))), none, some (.int x6)] (And.intro rfl (And.intro rfl (And.intro rfl (And.intro rfl trivial)))) (tl_206_5 c3 k3 x2 ((x4 * (1103515245 : Int32)) + (12345 : Int32)) x6 x5 (0 : Int32) I _ h))))) (fun h =>
  tt_R 2 (fun r => (.inl (some (.int r.1)))) (fun r => (cw κ cs r.2 J W)) h (fun _ => rfl))
theorem tn_206_3 {d : Nat} {κ : Nat × Option Nat} {cs : Nat × Nat} {J : Nat → Nat → Int64} {W : Nat} : ∀ (n : Nat) (x2 : Int32) (x4 : Int32) (x5 : Int32) (x6 : Int32) (I : (Nat → Nat → Int32)) (r : (Int32 × (Nat → Nat → Int32))), fx (fun _ _ _ _ _ => none) (bd_206_3 ) n x2 x4 x5 x6 I = some r → tt (d + 4) me_206 bk_206_3 [some (.ref 97), none, some (.int x2), none, some (.int x4), some (.int x5), some (.int x6)] [] (cw κ cs I J W) (.inl (some (.int r.1))) (cw κ cs r.2 J W)
  | 0 => fun _ _ _ _ _ _ h => nomatch h
  | n + 1 => fun x2 x4 x5 x6 I r h => tb_206_3  (fx _ (bd_206_3 ) n) (tn_206_3  n) x2 x4 x5 x6 I r h
theorem tl_206_3 {d : Nat} {κ : Nat × Option Nat} {cs : Nat × Nat} {J : Nat → Nat → Int64} {W : Nat} (x2 : Int32) (x4 : Int32) (x5 : Int32) (x6 : Int32) (I : (Nat → Nat → Int32)) (r : (Int32 × (Nat → Nat → Int32))) (h : lb_206_3  x2 x4 x5 x6 I = some r) : tt (d + 4) me_206 bk_206_3 [some (.ref 97), none, some (.int x2), none, some (.int x4), some (.int x5), some (.int x6)] [] (cw κ cs I J W) (.inl (some (.int r.1))) (cw κ cs r.2 J W) := tn_206_3  FU x2 x4 x5 x6 I r h
theorem m_206 {d : Nat} {κ : Nat × Option Nat} {cs : Nat × Nat} {J : Nat → Nat → Int64} {W : Nat} {x1 : Int32} {x2 : Int32} {x3 : Int32} {I : (Nat → Nat → Int32)} {r : (Int32 × (Nat → Nat → Int32))} (h : f_206 x1 x2 x3 I = some r) : tm (d + 4) 206 [.ref 97, .int x1, .int x2, .int x3] (cw κ cs I J W) (.inl (some (.int r.1))) (cw κ cs r.2 J W) :=
  tm_of me_206 rfl (Nat.le_of_ble_eq_true rfl) (
  let I1 := up I 97 0 (0 : Int32)
  tt_C (L1 := (bk_206_0.drop 8)) 8 [some (.ref 97), some (.int x1), some (.int x2), some (.int x3), none, none, none] [.ref 97] (cw κ cs I1 J W) (show ((f_133 x2 (0 : Int32) (60 : Int32) ).bind fun q2 => ((f_132 q2 (1 : Int32) I1).bind fun q3 => (if q3.1 = 0 then (lb_206_1   q3.2) else ((f_178 x3 (1 : Int32) q3.2).bind fun q4 => (if q4.1 = 0 then (lb_206_1   q4.2) else ((f_183 x3 q4.2).bind fun q5 => (lb_206_3  x2 x1 (0 : Int32) (0 : Int32) q5))))))) = some r from h) (fun _ => rfl) (fun _ e => m_133 (d := d + 3) e) fun q2 h =>
  tt_C (L1 := (bk_206_0.drop 10)) 2 [some (.ref 97), some (.int x1), some (.int x2), some (.int x3), none, none, none] [] (cw κ cs I1 J W) h (fun _ => rfl) (fun _ e => m_132 (d := d + 3) e) fun q3 h =>
  tt_I (L1 := bk_206_1) (L2 := (bk_206_0.drop 11)) 1 [some (.ref 97), some (.int x1), some (.int x2), some (.int x3), none, none, none] [] (cw κ cs q3.2 J W) h (fun _ => rfl) (fun h =>
  tt_F [none, none, none, none, none, none, none] trivial (tl_206_1   q3.2 _ h)) (fun h =>
  tt_C (L1 := (bk_206_0.drop 15)) 4 [some (.ref 97), some (.int x1), some (.int x2), some (.int x3), none, none, none] [] (cw κ cs q3.2 J W) h (fun _ => rfl) (fun _ e => m_178 (d := d + 2) e) fun q4 h =>
  tt_I (L1 := bk_206_1) (L2 := bk_206_2) 1 [some (.ref 97), some (.int x1), some (.int x2), some (.int x3), none, none, none] [] (cw κ cs q4.2 J W) h (fun _ => rfl) (fun h =>
  tt_F [none, none, none, none, none, none, none] trivial (tl_206_1   q4.2 _ h)) (fun h =>
  tt_C (L1 := (bk_206_2.drop 3)) 3 [some (.ref 97), some (.int x1), some (.int x2), some (.int x3), none, none, none] [] (cw κ cs q4.2 J W) h (fun _ => rfl) (fun _ e => m_183 (d := d) e) fun q5 h =>
  tt_J (L1 := bk_206_3) 5 [some (.ref 97), some (.int x1), some (.int x2), some (.int x3), some (.int x1), some (.int (0 : Int32)), some (.int (0 : Int32))] [] (cw κ cs q5 J W) (fun _ => rfl) (tt_F [some (.ref 97), none, some (.int x2), none, some (.int x1), some (.int (0 : Int32)), some (.int (0 : Int32))] (And.intro rfl (And.intro rfl (And.intro rfl (And.intro rfl (And.intro rfl trivial))))) (tl_206_3  x2 x1 (0 : Int32) (0 : Int32) q5 _ h)))))
/- 207 -/
def lb_207_6 (x3 : Int32) (I : (Nat → Nat → Int32)) : Option (Int32 × (Nat → Nat → Int32)) :=
  (some (x3, I))
def lb_207_5 (c3 : Int32 → Int32 → Int32 → Int32 → (Nat → Nat → Int32) → Option (Int32 × (Nat → Nat → Int32))) (x1 : Int32) (x2 : Int32) (x3 : Int32) (x4 : Int32) (I : (Nat → Nat → Int32)) : Option (Int32 × (Nat → Nat → Int32)) :=
  (c3 x1 x2 (x3 + (1 : Int32)) (x4 * (3 : Int32)) I)
def bd_207_3 (c3 : Int32 → Int32 → Int32 → Int32 → (Nat → Nat → Int32) → Option (Int32 × (Nat → Nat → Int32))) (x1 : Int32) (x2 : Int32) (x3 : Int32) (x4 : Int32) (I : (Nat → Nat → Int32)) : Option (Int32 × (Nat → Nat → Int32)) :=
  (if x2 = 0 then (if (x4 - (3 : Int32)) < ((2 : Int32) * x1) then (lb_207_5 c3 x1 x2 x3 x4 I) else (lb_207_6  x3 I)) else (if x4 < x1 then (lb_207_5 c3 x1 x2 x3 x4 I) else (lb_207_6  x3 I)))
def lb_207_3 : Int32 → Int32 → Int32 → Int32 → (Nat → Nat → Int32) → Option (Int32 × (Nat → Nat → Int32)) := fx (fun _ _ _ _ _ => none) (bd_207_3 ) FU
def lb_207_2 (x1 : Int32) (x2 : Int32) (I : (Nat → Nat → Int32)) : Option (Int32 × (Nat → Nat → Int32)) :=
  (lb_207_3  x1 x2 (0 : Int32) (1 : Int32) I)
def f_207 (x1 : Int32) (x2 : Int32) (I : (Nat → Nat → Int32)) : Option (Int32 × (Nat → Nat → Int32)) :=
  (let I1 := up I 97 0 (0 : Int32)
  ((f_133 x1 (1 : Int32) (1000 : Int32) ).bind fun q2 => ((f_132 q2 (1 : Int32) I1).bind fun q3 => (if q3.1 = 0 then (some ((0 : Int32), q3.2)) else (if x2 = 0 then (if x1 < (3 : Int32) then (some (((-1) : Int32), q3.2)) else (lb_207_2  x1 x2 q3.2)) else (lb_207_2  x1 x2 q3.2))))))
theorem tl_207_6 {d : Nat} {κ : Nat × Option Nat} {cs : Nat × Nat} {J : Nat → Nat → Int64} {W : Nat} (x3 : Int32) (I : (Nat → Nat → Int32)) (r : (Int32 × (Nat → Nat → Int32))) (h : lb_207_6  x3 I = some r) : tt (d + 1) me_207 bk_207_6 [none, none, none, some (.int x3), none] [] (cw κ cs I J W) (.inl (some (.int r.1))) (cw κ cs r.2 J W) :=
  tt_R 2 (fun r => (.inl (some (.int r.1)))) (fun r => (cw κ cs r.2 J W)) h (fun _ => rfl)
theorem tl_207_5 {d : Nat} {κ : Nat × Option Nat} {cs : Nat × Nat} {J : Nat → Nat → Int64} {W : Nat} (c3 : Int32 → Int32 → Int32 → Int32 → (Nat → Nat → Int32) → Option (Int32 × (Nat → Nat → Int32))) (k3 : ∀ (x1 : Int32) (x2 : Int32) (x3 : Int32) (x4 : Int32) (I : (Nat → Nat → Int32)) (r : (Int32 × (Nat → Nat → Int32))), c3 x1 x2 x3 x4 I = some r → tt (d + 1) me_207 bk_207_3 [none, some (.int x1), some (.int x2), some (.int x3), some (.int x4)] [] (cw κ cs I J W) (.inl (some (.int r.1))) (cw κ cs r.2 J W)) (x1 : Int32) (x2 : Int32) (x3 : Int32) (x4 : Int32) (I : (Nat → Nat → Int32)) (r : (Int32 × (Nat → Nat → Int32))) (h : lb_207_5 c3 x1 x2 x3 x4 I = some r) : tt (d + 1) me_207 bk_207_5 [none, some (.int x1), some (.int x2), some (.int x3), some (.int x4)] [] (cw κ cs I J W) (.inl (some (.int r.1))) (cw κ cs r.2 J W) :=
  tt_J (L1 := bk_207_3) 5 [none, some (.int x1), some (.int x2), some (.int (x3 + (1 : Int32))), some (.int (x4 * (3 : Int32)))] [] (cw κ cs I J W) (fun _ => rfl) (tt_F [none, some (.int x1), some (.int x2), some (.int (x3 + (1 : Int32))), some (.int (x4 * (3 : Int32)))] (And.intro rfl (And.intro rfl (And.intro rfl (And.intro rfl trivial)))) (k3 x1 x2 (x3 + (1 : Int32)) (x4 * (3 : Int32)) I _ h))
theorem tb_207_3 {d : Nat} {κ : Nat × Option Nat} {cs : Nat × Nat} {J : Nat → Nat → Int64} {W : Nat} (c3 : Int32 → Int32 → Int32 → Int32 → (Nat → Nat → Int32) → Option (Int32 × (Nat → Nat → Int32))) (k3 : ∀ (x1 : Int32) (x2 : Int32) (x3 : Int32) (x4 : Int32) (I : (Nat → Nat → Int32)) (r : (Int32 × (Nat → Nat → Int32))), c3 x1 x2 x3 x4 I = some r → tt (d + 1) me_207 bk_207_3 [none, some (.int x1), some (.int x2), some (.int x3), some (.int x4)] [] (cw κ cs I J W) (.inl (some (.int r.1))) (cw κ cs r.2 J W)) (x1 : Int32) (x2 : Int32) (x3 : Int32) (x4 : Int32) (I : (Nat → Nat → Int32)) (r : (Int32 × (Nat → Nat → Int32))) (h : bd_207_3  c3 x1 x2 x3 x4 I = some r) : tt (d + 1) me_207 bk_207_3 [none, some (.int x1), some (.int x2), some (.int x3), some (.int x4)] [] (cw κ cs I J W) (.inl (some (.int r.1))) (cw κ cs r.2 J W) :=
  tt_I (L1 := bk_207_4) (L2 := (bk_207_3.drop 2)) 2 [none, some (.int x1), some (.int x2), some (.int x3), some (.int x4)] [] (cw κ cs I J W) h (fun _ => rfl) (fun h =>
  tt_I (L1 := bk_207_5) (L2 := bk_207_6) 7 [none, some (.int x1), some (.int x2), some (.int x3), some (.int x4)] [] (cw κ cs I J W) h (fun _ => rfl) (fun h =>
  tt_F [none, some (.int x1), some (.int x2), some (.int x3), some (.int x4)] (And.intro rfl (And.intro rfl (And.intro rfl (And.intro rfl trivial)))) (tl_207_5 c3 k3 x1 x2 x3 x4 I _ h)) (fun h =>
  tt_F [none, none, none, some (.int x3), none] (And.intro rfl trivial) (tl_207_6  x3 I _ h))) (fun h =>
  tt_I (L1 := (bk_207_3.drop 5)) (L2 := bk_207_6) 3 [none, some (.int x1), some (.int x2), some (.int x3), some (.int x4)] [] (cw κ cs I J W) h (fun _ => rfl) (fun h =>
  tt_J (L1 := bk_207_5) 0 [none, some (.int x1), some (.int x2), some (.int x3), some (.int x4)] [] (cw κ cs I J W) (fun _ => rfl) (tt_F [none, some (.int x1), some (.int x2), some (.int x3), some (.int x4)] (And.intro rfl (And.intro rfl (And.intro rfl (And.intro rfl trivial)))) (tl_207_5 c3 k3 x1 x2 x3 x4 I _ h))) (fun h =>
  tt_F [none, none, none, some (.int x3), none] (And.intro rfl trivial) (tl_207_6  x3 I _ h)))
theorem tn_207_3 {d : Nat} {κ : Nat × Option Nat} {cs : Nat × Nat} {J : Nat → Nat → Int64} {W : Nat} : ∀ (n : Nat) (x1 : Int32) (x2 : Int32) (x3 : Int32) (x4 : Int32) (I : (Nat → Nat → Int32)) (r : (Int32 × (Nat → Nat → Int32))), fx (fun _ _ _ _ _ => none) (bd_207_3 ) n x1 x2 x3 x4 I = some r → tt (d + 1) me_207 bk_207_3 [none, some (.int x1), some (.int x2), some (.int x3), some (.int x4)] [] (cw κ cs I J W) (.inl (some (.int r.1))) (cw κ cs r.2 J W)
  | 0 => fun _ _ _ _ _ _ h => nomatch h
  | n + 1 => fun x1 x2 x3 x4 I r h => tb_207_3  (fx _ (bd_207_3 ) n) (tn_207_3  n) x1 x2 x3 x4 I r h
theorem tl_207_3 {d : Nat} {κ : Nat × Option Nat} {cs : Nat × Nat} {J : Nat → Nat → Int64} {W : Nat} (x1 : Int32) (x2 : Int32) (x3 : Int32) (x4 : Int32) (I : (Nat → Nat → Int32)) (r : (Int32 × (Nat → Nat → Int32))) (h : lb_207_3  x1 x2 x3 x4 I = some r) : tt (d + 1) me_207 bk_207_3 [none, some (.int x1), some (.int x2), some (.int x3), some (.int x4)] [] (cw κ cs I J W) (.inl (some (.int r.1))) (cw κ cs r.2 J W) := tn_207_3  FU x1 x2 x3 x4 I r h
theorem tl_207_2 {d : Nat} {κ : Nat × Option Nat} {cs : Nat × Nat} {J : Nat → Nat → Int64} {W : Nat} (x1 : Int32) (x2 : Int32) (I : (Nat → Nat → Int32)) (r : (Int32 × (Nat → Nat → Int32))) (h : lb_207_2  x1 x2 I = some r) : tt (d + 1) me_207 bk_207_2 [none, some (.int x1), some (.int x2), none, none] [] (cw κ cs I J W) (.inl (some (.int r.1))) (cw κ cs r.2 J W) :=
  tt_J (L1 := bk_207_3) 3 [none, some (.int x1), some (.int x2), some (.int (0 : Int32)), some (.int (1 : Int32))] [] (cw κ cs I J W) (fun _ => rfl) (tt_F [none, some (.int x1), some (.int x2), some (.int (0 : Int32)), some (.int (1 : Int32))] (And.intro rfl (And.intro rfl (And.intro rfl (And.intro rfl trivial)))) (tl_207_3  x1 x2 (0 : Int32) (1 : Int32) I _ h))
theorem m_207 {d : Nat} {κ : Nat × Option Nat} {cs : Nat × Nat} {J : Nat → Nat → Int64} {W : Nat} {x1 : Int32} {x2 : Int32} {I : (Nat → Nat → Int32)} {r : (Int32 × (Nat → Nat → Int32))} (h : f_207 x1 x2 I = some r) : tm (d + 1) 207 [.ref 97, .int x1, .int x2] (cw κ cs I J W) (.inl (some (.int r.1))) (cw κ cs r.2 J W) :=
  tm_of me_207 rfl (Nat.le_of_ble_eq_true rfl) (
  let I1 := up I 97 0 (0 : Int32)
  tt_C (L1 := (bk_207_0.drop 8)) 8 [some (.ref 97), some (.int x1), some (.int x2), none, none] [.ref 97] (cw κ cs I1 J W) (show ((f_133 x1 (1 : Int32) (1000 : Int32) ).bind fun q2 => ((f_132 q2 (1 : Int32) I1).bind fun q3 => (if q3.1 = 0 then (some ((0 : Int32), q3.2)) else (if x2 = 0 then (if x1 < (3 : Int32) then (some (((-1) : Int32), q3.2)) else (lb_207_2  x1 x2 q3.2)) else (lb_207_2  x1 x2 q3.2))))) = some r from h) (fun _ => rfl) (fun _ e => m_133 (d := d) e) fun q2 h =>
  tt_C (L1 := (bk_207_0.drop 10)) 2 [some (.ref 97), some (.int x1), some (.int x2), none, none] [] (cw κ cs I1 J W) h (fun _ => rfl) (fun _ e => m_132 (d := d) e) fun q3 h =>
  tt_I (L1 := (bk_207_0.drop 11)) (L2 := bk_207_1) 1 [some (.ref 97), some (.int x1), some (.int x2), none, none] [] (cw κ cs q3.2 J W) h (fun _ => rfl) (fun h =>
  tt_R 2 (fun r => (.inl (some (.int r.1)))) (fun r => (cw κ cs r.2 J W)) h (fun _ => rfl)) (fun h =>
  tt_I (L1 := (bk_207_1.drop 2)) (L2 := bk_207_2) 2 [some (.ref 97), some (.int x1), some (.int x2), none, none] [] (cw κ cs q3.2 J W) h (fun _ => rfl) (fun h =>
  tt_I (L1 := (bk_207_1.drop 5)) (L2 := bk_207_2) 3 [some (.ref 97), some (.int x1), some (.int x2), none, none] [] (cw κ cs q3.2 J W) h (fun _ => rfl) (fun h =>
  tt_R 2 (fun r => (.inl (some (.int r.1)))) (fun r => (cw κ cs r.2 J W)) h (fun _ => rfl)) (fun h =>
  tt_F [none, some (.int x1), some (.int x2), none, none] (And.intro rfl (And.intro rfl trivial)) (tl_207_2  x1 x2 q3.2 _ h))) (fun h =>
  tt_F [none, some (.int x1), some (.int x2), none, none] (And.intro rfl (And.intro rfl trivial)) (tl_207_2  x1 x2 q3.2 _ h))))
/- 134 -/
def bd_134_97_122_128_1 (c1 : Int32 → (Nat → Nat → Int32) → Option (Nat → Nat → Int32)) (x3 : Int32) (I : (Nat → Nat → Int32)) : Option (Nat → Nat → Int32) :=
  (if x3 < (nI 60) then (if ex_in x3 60 then (if ex_in x3 60 then let I1 := up I 128 (x3).toNatClampNeg (I 122 (x3).toNatClampNeg)
  (c1 (x3 + (1 : Int32)) I1) else none) else none) else (some I))
def lb_134_97_122_128_1 : Int32 → (Nat → Nat → Int32) → Option (Nat → Nat → Int32) := fx (fun _ _ => none) (bd_134_97_122_128_1 ) FU
def f_134_97_122_128 (I : (Nat → Nat → Int32)) : Option (Nat → Nat → Int32) :=
  (lb_134_97_122_128_1  (0 : Int32) I)
theorem tb_134_97_122_128_1 {d : Nat} {κ : Nat × Option Nat} {cs : Nat × Nat} {J : Nat → Nat → Int64} {W : Nat} (c1 : Int32 → (Nat → Nat → Int32) → Option (Nat → Nat → Int32)) (k1 : ∀ (x3 : Int32) (I : (Nat → Nat → Int32)) (r : (Nat → Nat → Int32)), c1 x3 I = some r → tt d me_134 bk_134_1 [none, some (.ref 122), some (.ref 128), some (.int x3)] [] (cw κ cs I J W) (.inl none) (cw κ cs r J W)) (x3 : Int32) (I : (Nat → Nat → Int32)) (r : (Nat → Nat → Int32)) (h : bd_134_97_122_128_1  c1 x3 I = some r) : tt d me_134 bk_134_1 [none, some (.ref 122), some (.ref 128), some (.int x3)] [] (cw κ cs I J W) (.inl none) (cw κ cs r J W) :=
  tt_I (L1 := (bk_134_1.drop 4)) (L2 := bk_134_2) 4 [none, some (.ref 122), some (.ref 128), some (.int x3)] [] (cw κ cs I J W) h (fun _ => rfl) (fun h =>
  tt_J (L1 := (bk_134_1.drop 8)) 3 [none, some (.ref 122), some (.ref 128), some (.int x3)] [.int x3, .ref 122, .int x3, .ref 128] (cw κ cs I J W) (fun _ => rfl) (
  tt_Qi rfl h fun h =>
  let I1 := up I 128 (x3).toNatClampNeg (I 122 (x3).toNatClampNeg)
  tt_Wi rfl (Nat.le_of_ble_eq_true rfl) h fun h =>
  tt_J (L1 := bk_134_1) 1 [none, some (.ref 122), some (.ref 128), some (.int (x3 + (1 : Int32)))] [] (cw κ cs I1 J W) (fun _ => rfl) (tt_F [none, some (.ref 122), some (.ref 128), some (.int (x3 + (1 : Int32)))] (And.intro rfl (And.intro rfl (And.intro rfl trivial))) (k1 (x3 + (1 : Int32)) I1 _ h)))) (fun h =>
  tt_R 1 (fun r => (.inl none)) (fun r => (cw κ cs r J W)) h (fun _ => rfl))
theorem tn_134_97_122_128_1 {d : Nat} {κ : Nat × Option Nat} {cs : Nat × Nat} {J : Nat → Nat → Int64} {W : Nat} : ∀ (n : Nat) (x3 : Int32) (I : (Nat → Nat → Int32)) (r : (Nat → Nat → Int32)), fx (fun _ _ => none) (bd_134_97_122_128_1 ) n x3 I = some r → tt d me_134 bk_134_1 [none, some (.ref 122), some (.ref 128), some (.int x3)] [] (cw κ cs I J W) (.inl none) (cw κ cs r J W)
  | 0 => fun _ _ _ h => nomatch h
  | n + 1 => fun x3 I r h => tb_134_97_122_128_1  (fx _ (bd_134_97_122_128_1 ) n) (tn_134_97_122_128_1  n) x3 I r h
theorem tl_134_97_122_128_1 {d : Nat} {κ : Nat × Option Nat} {cs : Nat × Nat} {J : Nat → Nat → Int64} {W : Nat} (x3 : Int32) (I : (Nat → Nat → Int32)) (r : (Nat → Nat → Int32)) (h : lb_134_97_122_128_1  x3 I = some r) : tt d me_134 bk_134_1 [none, some (.ref 122), some (.ref 128), some (.int x3)] [] (cw κ cs I J W) (.inl none) (cw κ cs r J W) := tn_134_97_122_128_1  FU x3 I r h
theorem m_134_97_122_128 {d : Nat} {κ : Nat × Option Nat} {cs : Nat × Nat} {J : Nat → Nat → Int64} {W : Nat} {I : (Nat → Nat → Int32)} {r : (Nat → Nat → Int32)} (h : f_134_97_122_128  I = some r) : tm d 134 [.ref 97, .ref 122, .ref 128] (cw κ cs I J W) (.inl none) (cw κ cs r J W) :=
  tm_of me_134 rfl (Nat.le_of_ble_eq_true rfl) (
  tt_J (L1 := bk_134_1) 1 [some (.ref 97), some (.ref 122), some (.ref 128), some (.int (0 : Int32))] [] (cw κ cs I J W) (fun _ => rfl) (tt_F [none, some (.ref 122), some (.ref 128), some (.int (0 : Int32))] (And.intro rfl (And.intro rfl (And.intro rfl trivial))) (tl_134_97_122_128_1  (0 : Int32) I _ h)))
/- 134 -/
def bd_134_97_123_129_1 (c1 : Int32 → (Nat → Nat → Int32) → Option (Nat → Nat → Int32)) (x3 : Int32) (I : (Nat → Nat → Int32)) : Option (Nat → Nat → Int32) :=
  (if x3 < (nI 60) then (if ex_in x3 60 then (if ex_in x3 60 then let I1 := up I 129 (x3).toNatClampNeg (I 123 (x3).toNatClampNeg)
  (c1 (x3 + (1 : Int32)) I1) else none) else none) else (some I))
def lb_134_97_123_129_1 : Int32 → (Nat → Nat → Int32) → Option (Nat → Nat → Int32) := fx (fun _ _ => none) (bd_134_97_123_129_1 ) FU
def f_134_97_123_129 (I : (Nat → Nat → Int32)) : Option (Nat → Nat → Int32) :=
  (lb_134_97_123_129_1  (0 : Int32) I)
theorem tb_134_97_123_129_1 {d : Nat} {κ : Nat × Option Nat} {cs : Nat × Nat} {J : Nat → Nat → Int64} {W : Nat} (c1 : Int32 → (Nat → Nat → Int32) → Option (Nat → Nat → Int32)) (k1 : ∀ (x3 : Int32) (I : (Nat → Nat → Int32)) (r : (Nat → Nat → Int32)), c1 x3 I = some r → tt d me_134 bk_134_1 [none, some (.ref 123), some (.ref 129), some (.int x3)] [] (cw κ cs I J W) (.inl none) (cw κ cs r J W)) (x3 : Int32) (I : (Nat → Nat → Int32)) (r : (Nat → Nat → Int32)) (h : bd_134_97_123_129_1  c1 x3 I = some r) : tt d me_134 bk_134_1 [none, some (.ref 123), some (.ref 129), some (.int x3)] [] (cw κ cs I J W) (.inl none) (cw κ cs r J W) :=
  tt_I (L1 := (bk_134_1.drop 4)) (L2 := bk_134_2) 4 [none, some (.ref 123), some (.ref 129), some (.int x3)] [] (cw κ cs I J W) h (fun _ => rfl) (fun h =>
  tt_J (L1 := (bk_134_1.drop 8)) 3 [none, some (.ref 123), some (.ref 129), some (.int x3)] [.int x3, .ref 123, .int x3, .ref 129] (cw κ cs I J W) (fun _ => rfl) (
  tt_Qi rfl h fun h =>
  let I1 := up I 129 (x3).toNatClampNeg (I 123 (x3).toNatClampNeg)
  tt_Wi rfl (Nat.le_of_ble_eq_true rfl) h fun h =>
  tt_J (L1 := bk_134_1) 1 [none, some (.ref 123), some (.ref 129), some (.int (x3 + (1 : Int32)))] [] (cw κ cs I1 J W) (fun _ => rfl) (tt_F [none, some (.ref 123), some (.ref 129), some (.int (x3 + (1 : Int32)))] (And.intro rfl (And.intro rfl (And.intro rfl trivial))) (k1 (x3 + (1 : Int32)) I1 _ h)))) (fun h =>
  tt_R 1 (fun r => (.inl none)) (fun r => (cw κ cs r J W)) h (fun _ => rfl))
theorem tn_134_97_123_129_1 {d : Nat} {κ : Nat × Option Nat} {cs : Nat × Nat} {J : Nat → Nat → Int64} {W : Nat} : ∀ (n : Nat) (x3 : Int32) (I : (Nat → Nat → Int32)) (r : (Nat → Nat → Int32)), fx (fun _ _ => none) (bd_134_97_123_129_1 ) n x3 I = some r → tt d me_134 bk_134_1 [none, some (.ref 123), some (.ref 129), some (.int x3)] [] (cw κ cs I J W) (.inl none) (cw κ cs r J W)
  | 0 => fun _ _ _ h => nomatch h
  | n + 1 => fun x3 I r h => tb_134_97_123_129_1  (fx _ (bd_134_97_123_129_1 ) n) (tn_134_97_123_129_1  n) x3 I r h
theorem tl_134_97_123_129_1 {d : Nat} {κ : Nat × Option Nat} {cs : Nat × Nat} {J : Nat → Nat → Int64} {W : Nat} (x3 : Int32) (I : (Nat → Nat → Int32)) (r : (Nat → Nat → Int32)) (h : lb_134_97_123_129_1  x3 I = some r) : tt d me_134 bk_134_1 [none, some (.ref 123), some (.ref 129), some (.int x3)] [] (cw κ cs I J W) (.inl none) (cw κ cs r J W) := tn_134_97_123_129_1  FU x3 I r h
theorem m_134_97_123_129 {d : Nat} {κ : Nat × Option Nat} {cs : Nat × Nat} {J : Nat → Nat → Int64} {W : Nat} {I : (Nat → Nat → Int32)} {r : (Nat → Nat → Int32)} (h : f_134_97_123_129  I = some r) : tm d 134 [.ref 97, .ref 123, .ref 129] (cw κ cs I J W) (.inl none) (cw κ cs r J W) :=
  tm_of me_134 rfl (Nat.le_of_ble_eq_true rfl) (
  tt_J (L1 := bk_134_1) 1 [some (.ref 97), some (.ref 123), some (.ref 129), some (.int (0 : Int32))] [] (cw κ cs I J W) (fun _ => rfl) (tt_F [none, some (.ref 123), some (.ref 129), some (.int (0 : Int32))] (And.intro rfl (And.intro rfl (And.intro rfl trivial))) (tl_134_97_123_129_1  (0 : Int32) I _ h)))
/- 134 -/
def bd_134_97_124_130_1 (c1 : Int32 → (Nat → Nat → Int32) → Option (Nat → Nat → Int32)) (x3 : Int32) (I : (Nat → Nat → Int32)) : Option (Nat → Nat → Int32) :=
  (if x3 < (nI 60) then (if ex_in x3 60 then (if ex_in x3 60 then let I1 := up I 130 (x3).toNatClampNeg (I 124 (x3).toNatClampNeg)
  (c1 (x3 + (1 : Int32)) I1) else none) else none) else (some I))
def lb_134_97_124_130_1 : Int32 → (Nat → Nat → Int32) → Option (Nat → Nat → Int32) := fx (fun _ _ => none) (bd_134_97_124_130_1 ) FU
def f_134_97_124_130 (I : (Nat → Nat → Int32)) : Option (Nat → Nat → Int32) :=
  (lb_134_97_124_130_1  (0 : Int32) I)
theorem tb_134_97_124_130_1 {d : Nat} {κ : Nat × Option Nat} {cs : Nat × Nat} {J : Nat → Nat → Int64} {W : Nat} (c1 : Int32 → (Nat → Nat → Int32) → Option (Nat → Nat → Int32)) (k1 : ∀ (x3 : Int32) (I : (Nat → Nat → Int32)) (r : (Nat → Nat → Int32)), c1 x3 I = some r → tt d me_134 bk_134_1 [none, some (.ref 124), some (.ref 130), some (.int x3)] [] (cw κ cs I J W) (.inl none) (cw κ cs r J W)) (x3 : Int32) (I : (Nat → Nat → Int32)) (r : (Nat → Nat → Int32)) (h : bd_134_97_124_130_1  c1 x3 I = some r) : tt d me_134 bk_134_1 [none, some (.ref 124), some (.ref 130), some (.int x3)] [] (cw κ cs I J W) (.inl none) (cw κ cs r J W) :=
  tt_I (L1 := (bk_134_1.drop 4)) (L2 := bk_134_2) 4 [none, some (.ref 124), some (.ref 130), some (.int x3)] [] (cw κ cs I J W) h (fun _ => rfl) (fun h =>
  tt_J (L1 := (bk_134_1.drop 8)) 3 [none, some (.ref 124), some (.ref 130), some (.int x3)] [.int x3, .ref 124, .int x3, .ref 130] (cw κ cs I J W) (fun _ => rfl) (
  tt_Qi rfl h fun h =>
  let I1 := up I 130 (x3).toNatClampNeg (I 124 (x3).toNatClampNeg)
  tt_Wi rfl (Nat.le_of_ble_eq_true rfl) h fun h =>
  tt_J (L1 := bk_134_1) 1 [none, some (.ref 124), some (.ref 130), some (.int (x3 + (1 : Int32)))] [] (cw κ cs I1 J W) (fun _ => rfl) (tt_F [none, some (.ref 124), some (.ref 130), some (.int (x3 + (1 : Int32)))] (And.intro rfl (And.intro rfl (And.intro rfl trivial))) (k1 (x3 + (1 : Int32)) I1 _ h)))) (fun h =>
  tt_R 1 (fun r => (.inl none)) (fun r => (cw κ cs r J W)) h (fun _ => rfl))
theorem tn_134_97_124_130_1 {d : Nat} {κ : Nat × Option Nat} {cs : Nat × Nat} {J : Nat → Nat → Int64} {W : Nat} : ∀ (n : Nat) (x3 : Int32) (I : (Nat → Nat → Int32)) (r : (Nat → Nat → Int32)), fx (fun _ _ => none) (bd_134_97_124_130_1 ) n x3 I = some r → tt d me_134 bk_134_1 [none, some (.ref 124), some (.ref 130), some (.int x3)] [] (cw κ cs I J W) (.inl none) (cw κ cs r J W)
  | 0 => fun _ _ _ h => nomatch h
  | n + 1 => fun x3 I r h => tb_134_97_124_130_1  (fx _ (bd_134_97_124_130_1 ) n) (tn_134_97_124_130_1  n) x3 I r h
theorem tl_134_97_124_130_1 {d : Nat} {κ : Nat × Option Nat} {cs : Nat × Nat} {J : Nat → Nat → Int64} {W : Nat} (x3 : Int32) (I : (Nat → Nat → Int32)) (r : (Nat → Nat → Int32)) (h : lb_134_97_124_130_1  x3 I = some r) : tt d me_134 bk_134_1 [none, some (.ref 124), some (.ref 130), some (.int x3)] [] (cw κ cs I J W) (.inl none) (cw κ cs r J W) := tn_134_97_124_130_1  FU x3 I r h
theorem m_134_97_124_130 {d : Nat} {κ : Nat × Option Nat} {cs : Nat × Nat} {J : Nat → Nat → Int64} {W : Nat} {I : (Nat → Nat → Int32)} {r : (Nat → Nat → Int32)} (h : f_134_97_124_130  I = some r) : tm d 134 [.ref 97, .ref 124, .ref 130] (cw κ cs I J W) (.inl none) (cw κ cs r J W) :=
  tm_of me_134 rfl (Nat.le_of_ble_eq_true rfl) (
  tt_J (L1 := bk_134_1) 1 [some (.ref 97), some (.ref 124), some (.ref 130), some (.int (0 : Int32))] [] (cw κ cs I J W) (fun _ => rfl) (tt_F [none, some (.ref 124), some (.ref 130), some (.int (0 : Int32))] (And.intro rfl (And.intro rfl (And.intro rfl trivial))) (tl_134_97_124_130_1  (0 : Int32) I _ h)))
/- 134 -/
def bd_134_97_125_131_1 (c1 : Int32 → (Nat → Nat → Int32) → Option (Nat → Nat → Int32)) (x3 : Int32) (I : (Nat → Nat → Int32)) : Option (Nat → Nat → Int32) :=
  (if x3 < (nI 1200) then (if ex_in x3 1200 then (if ex_in x3 1200 then let I1 := up I 131 (x3).toNatClampNeg (I 125 (x3).toNatClampNeg)
  (c1 (x3 + (1 : Int32)) I1) else none) else none) else (some I))
def lb_134_97_125_131_1 : Int32 → (Nat → Nat → Int32) → Option (Nat → Nat → Int32) := fx (fun _ _ => none) (bd_134_97_125_131_1 ) FU
def f_134_97_125_131 (I : (Nat → Nat → Int32)) : Option (Nat → Nat → Int32) :=
  (lb_134_97_125_131_1  (0 : Int32) I)
theorem tb_134_97_125_131_1 {d : Nat} {κ : Nat × Option Nat} {cs : Nat × Nat} {J : Nat → Nat → Int64} {W : Nat} (c1 : Int32 → (Nat → Nat → Int32) → Option (Nat → Nat → Int32)) (k1 : ∀ (x3 : Int32) (I : (Nat → Nat → Int32)) (r : (Nat → Nat → Int32)), c1 x3 I = some r → tt d me_134 bk_134_1 [none, some (.ref 125), some (.ref 131), some (.int x3)] [] (cw κ cs I J W) (.inl none) (cw κ cs r J W)) (x3 : Int32) (I : (Nat → Nat → Int32)) (r : (Nat → Nat → Int32)) (h : bd_134_97_125_131_1  c1 x3 I = some r) : tt d me_134 bk_134_1 [none, some (.ref 125), some (.ref 131), some (.int x3)] [] (cw κ cs I J W) (.inl none) (cw κ cs r J W) :=
  tt_I (L1 := (bk_134_1.drop 4)) (L2 := bk_134_2) 4 [none, some (.ref 125), some (.ref 131), some (.int x3)] [] (cw κ cs I J W) h (fun _ => rfl) (fun h =>
  tt_J (L1 := (bk_134_1.drop 8)) 3 [none, some (.ref 125), some (.ref 131), some (.int x3)] [.int x3, .ref 125, .int x3, .ref 131] (cw κ cs I J W) (fun _ => rfl) (
  tt_Qi rfl h fun h =>
  let I1 := up I 131 (x3).toNatClampNeg (I 125 (x3).toNatClampNeg)
  tt_Wi rfl (Nat.le_of_ble_eq_true rfl) h fun h =>
  tt_J (L1 := bk_134_1) 1 [none, some (.ref 125), some (.ref 131), some (.int (x3 + (1 : Int32)))] [] (cw κ cs I1 J W) (fun _ => rfl) (tt_F [none, some (.ref 125), some (.ref 131), some (.int (x3 + (1 : Int32)))] (And.intro rfl (And.intro rfl (And.intro rfl trivial))) (k1 (x3 + (1 : Int32)) I1 _ h)))) (fun h =>
  tt_R 1 (fun r => (.inl none)) (fun r => (cw κ cs r J W)) h (fun _ => rfl))
theorem tn_134_97_125_131_1 {d : Nat} {κ : Nat × Option Nat} {cs : Nat × Nat} {J : Nat → Nat → Int64} {W : Nat} : ∀ (n : Nat) (x3 : Int32) (I : (Nat → Nat → Int32)) (r : (Nat → Nat → Int32)), fx (fun _ _ => none) (bd_134_97_125_131_1 ) n x3 I = some r → tt d me_134 bk_134_1 [none, some (.ref 125), some (.ref 131), some (.int x3)] [] (cw κ cs I J W) (.inl none) (cw κ cs r J W)
  | 0 => fun _ _ _ h => nomatch h
  | n + 1 => fun x3 I r h => tb_134_97_125_131_1  (fx _ (bd_134_97_125_131_1 ) n) (tn_134_97_125_131_1  n) x3 I r h
theorem tl_134_97_125_131_1 {d : Nat} {κ : Nat × Option Nat} {cs : Nat × Nat} {J : Nat → Nat → Int64} {W : Nat} (x3 : Int32) (I : (Nat → Nat → Int32)) (r : (Nat → Nat → Int32)) (h : lb_134_97_125_131_1  x3 I = some r) : tt d me_134 bk_134_1 [none, some (.ref 125), some (.ref 131), some (.int x3)] [] (cw κ cs I J W) (.inl none) (cw κ cs r J W) := tn_134_97_125_131_1  FU x3 I r h
theorem m_134_97_125_131 {d : Nat} {κ : Nat × Option Nat} {cs : Nat × Nat} {J : Nat → Nat → Int64} {W : Nat} {I : (Nat → Nat → Int32)} {r : (Nat → Nat → Int32)} (h : f_134_97_125_131  I = some r) : tm d 134 [.ref 97, .ref 125, .ref 131] (cw κ cs I J W) (.inl none) (cw κ cs r J W) :=
  tm_of me_134 rfl (Nat.le_of_ble_eq_true rfl) (
  tt_J (L1 := bk_134_1) 1 [some (.ref 97), some (.ref 125), some (.ref 131), some (.int (0 : Int32))] [] (cw κ cs I J W) (fun _ => rfl) (tt_F [none, some (.ref 125), some (.ref 131), some (.int (0 : Int32))] (And.intro rfl (And.intro rfl (And.intro rfl trivial))) (tl_134_97_125_131_1  (0 : Int32) I _ h)))
