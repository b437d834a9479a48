/-! functions, by wip/whole/sy.py -/
/- 134 -/
def bd_134_97_126_132_1 (c1 : Int32 → (Nat → Nat → Int32) → Option (Nat → Nat → Int32)) (x3 : Int32) (I : (Nat → Nat → Int32)) : Option (Nat → Nat → Int32) :=
  (if x3 < (nI 1200) then (if ex_in x3 1200 then (if ex_in x3 1200 then let I1 := up I 132 (x3).toNatClampNeg (I 126 (x3).toNatClampNeg)
  (c1 (x3 + (1 : Int32)) I1) else none) else none) else (some I))
def lb_134_97_126_132_1 : Int32 → (Nat → Nat → Int32) → Option (Nat → Nat → Int32) := fx (fun _ _ => none) (bd_134_97_126_132_1 ) FU
def f_134_97_126_132 (I : (Nat → Nat → Int32)) : Option (Nat → Nat → Int32) :=
  (lb_134_97_126_132_1  (0 : Int32) I)
theorem tb_134_97_126_132_1 {d : Nat} {κ : Nat × Option Nat} {cs : Nat × Nat} {J : Nat → Nat → Int64} {W : Nat} (c1 : Int32 → (Nat → Nat → Int32) → Option (Nat → Nat → Int32)) (k1 : ∀ (x3 : Int32) (I : (Nat → Nat → Int32)) (r : (Nat → Nat → Int32)), c1 x3 I = some r → tt d me_134 bk_134_1 [none, some (.ref 126), some (.ref 132), some (.int x3)] [] (cw κ cs I J W) (.inl none) (cw κ cs r J W)) (x3 : Int32) (I : (Nat → Nat → Int32)) (r : (Nat → Nat → Int32)) (h : bd_134_97_126_132_1  c1 x3 I = some r) : tt d me_134 bk_134_1 [none, some (.ref 126), some (.ref 132), some (.int x3)] [] (cw κ cs I J W) (.inl none) (cw κ cs r J W) :=
  tt_I (L1 := (bk_134_1.drop 4)) (L2 := bk_134_2) 4 [none, some (.ref 126), some (.ref 132), some (.int x3)] [] (cw κ cs I J W) h (fun _ => rfl) (fun h =>
  tt_J (L1 := (bk_134_1.drop 8)) 3 [none, some (.ref 126), some (.ref 132), some (.int x3)] [.int x3, .ref 126, .int x3, .ref 132] (cw κ cs I J W) (fun _ => rfl) (
  tt_Qi rfl h fun h =>
  let I1 := up I 132 (x3).toNatClampNeg (I 126 (x3).toNatClampNeg)
  tt_Wi rfl (Nat.le_of_ble_eq_true rfl) h fun h =>
  tt_J (L1 := bk_134_1) 1 [none, some (.ref 126), some (.ref 132), some (.int (x3 + (1 : Int32)))] [] (cw κ cs I1 J W) (fun _ => rfl) (tt_F [none, some (.ref 126), some (.ref 132), some (.int (x3 + (1 : Int32)))] (And.intro rfl (And.intro rfl (And.intro rfl trivial))) (k1 (x3 + (1 : Int32)) I1 _ h)))) (fun h =>
  tt_R 1 (fun r => (.inl none)) (fun r => (cw κ cs r J W)) h (fun _ => rfl))
theorem tn_134_97_126_132_1 {d : Nat} {κ : Nat × Option Nat} {cs : Nat × Nat} {J : Nat → Nat → Int64} {W : Nat} : ∀ (n : Nat) (x3 : Int32) (I : (Nat → Nat → Int32)) (r : (Nat → Nat → Int32)), fx (fun _ _ => none) (bd_134_97_126_132_1 ) n x3 I = some r → tt d me_134 bk_134_1 [none, some (.ref 126), some (.ref 132), some (.int x3)] [] (cw κ cs I J W) (.inl none) (cw κ cs r J W)
  | 0 => fun _ _ _ h => nomatch h
  | n + 1 => fun x3 I r h => tb_134_97_126_132_1  (fx _ (bd_134_97_126_132_1 ) n) (tn_134_97_126_132_1  n) x3 I r h
theorem tl_134_97_126_132_1 {d : Nat} {κ : Nat × Option Nat} {cs : Nat × Nat} {J : Nat → Nat → Int64} {W : Nat} (x3 : Int32) (I : (Nat → Nat → Int32)) (r : (Nat → Nat → Int32)) (h : lb_134_97_126_132_1  x3 I = some r) : tt d me_134 bk_134_1 [none, some (.ref 126), some (.ref 132), some (.int x3)] [] (cw κ cs I J W) (.inl none) (cw κ cs r J W) := tn_134_97_126_132_1  FU x3 I r h
theorem m_134_97_126_132 {d : Nat} {κ : Nat × Option Nat} {cs : Nat × Nat} {J : Nat → Nat → Int64} {W : Nat} {I : (Nat → Nat → Int32)} {r : (Nat → Nat → Int32)} (h : f_134_97_126_132  I = some r) : tm d 134 [.ref 97, .ref 126, .ref 132] (cw κ cs I J W) (.inl none) (cw κ cs r J W) :=
  tm_of me_134 rfl (Nat.le_of_ble_eq_true rfl) (
  tt_J (L1 := bk_134_1) 1 [some (.ref 97), some (.ref 126), some (.ref 132), some (.int (0 : Int32))] [] (cw κ cs I J W) (fun _ => rfl) (tt_F [none, some (.ref 126), some (.ref 132), some (.int (0 : Int32))] (And.intro rfl (And.intro rfl (And.intro rfl trivial))) (tl_134_97_126_132_1  (0 : Int32) I _ h)))
/- 208 -/
def f_208 (I : (Nat → Nat → Int32)) : Option (Nat → Nat → Int32) :=
  (let I1 := up I 97 0 (0 : Int32)
  (let I2 := up I1 97 59 (1 : Int32)
  (let I3 := up I2 97 60 (I2 97 52)
  ((f_134_97_122_128  I3).bind fun q4 => ((f_134_97_123_129  q4).bind fun q5 => ((f_134_97_124_130  q5).bind fun q6 => ((f_134_97_125_131  q6).bind fun q7 => ((f_134_97_126_132  q7).bind fun q8 => (some q8)))))))))
theorem m_208 {d : Nat} {κ : Nat × Option Nat} {cs : Nat × Nat} {J : Nat → Nat → Int64} {W : Nat} {I : (Nat → Nat → Int32)} {r : (Nat → Nat → Int32)} (h : f_208  I = some r) : tm (d + 1) 208 [.ref 97] (cw κ cs I J W) (.inl none) (cw κ cs r J W) :=
  tm_of me_208 rfl (Nat.le_of_ble_eq_true rfl) (
  let I1 := up I 97 0 (0 : Int32)
  let I2 := up I1 97 59 (1 : Int32)
  let I3 := up I2 97 60 (I2 97 52)
  tt_C (L1 := (bk_208_0.drop 16)) 16 [some (.ref 97)] [] (cw κ cs I3 J W) (show ((f_134_97_122_128  I3).bind fun q4 => ((f_134_97_123_129  q4).bind fun q5 => ((f_134_97_124_130  q5).bind fun q6 => ((f_134_97_125_131  q6).bind fun q7 => ((f_134_97_126_132  q7).bind fun q8 => (some q8)))))) = some r from h) (fun _ => rfl) (fun _ e => m_134_97_122_128 (d := d) e) fun q4 h =>
  tt_C (L1 := (bk_208_0.drop 22)) 6 [some (.ref 97)] [] (cw κ cs q4 J W) h (fun _ => rfl) (fun _ e => m_134_97_123_129 (d := d) e) fun q5 h =>
  tt_C (L1 := (bk_208_0.drop 28)) 6 [some (.ref 97)] [] (cw κ cs q5 J W) h (fun _ => rfl) (fun _ e => m_134_97_124_130 (d := d) e) fun q6 h =>
  tt_C (L1 := (bk_208_0.drop 34)) 6 [some (.ref 97)] [] (cw κ cs q6 J W) h (fun _ => rfl) (fun _ e => m_134_97_125_131 (d := d) e) fun q7 h =>
  tt_C (L1 := (bk_208_0.drop 40)) 6 [some (.ref 97)] [] (cw κ cs q7 J W) h (fun _ => rfl) (fun _ e => m_134_97_126_132 (d := d) e) fun q8 h =>
  tt_R 1 (fun r => (.inl none)) (fun r => (cw κ cs r J W)) h (fun _ => rfl))
/- 134 -/
def bd_134_97_128_122_1 (c1 : Int32 → (Nat → Nat → Int32) → Option (Nat → Nat → Int32)) (x3 : Int32) (I : (Nat → Nat → Int32)) : Option (Nat → Nat → Int32) :=
  (if x3 < (nI 60) then (if ex_in x3 60 then (if ex_in x3 60 then let I1 := up I 122 (x3).toNatClampNeg (I 128 (x3).toNatClampNeg)
  (c1 (x3 + (1 : Int32)) I1) else none) else none) else (some I))
def lb_134_97_128_122_1 : Int32 → (Nat → Nat → Int32) → Option (Nat → Nat → Int32) := fx (fun _ _ => none) (bd_134_97_128_122_1 ) FU
def f_134_97_128_122 (I : (Nat → Nat → Int32)) : Option (Nat → Nat → Int32) :=
  (lb_134_97_128_122_1  (0 : Int32) I)
theorem tb_134_97_128_122_1 {d : Nat} {κ : Nat × Option Nat} {cs : Nat × Nat} {J : Nat → Nat → Int64} {W : Nat} (c1 : Int32 → (Nat → Nat → Int32) → Option (Nat → Nat → Int32)) (k1 : ∀ (x3 : Int32) (I : (Nat → Nat → Int32)) (r : (Nat → Nat → Int32)), c1 x3 I = some r → tt d me_134 bk_134_1 [none, some (.ref 128), some (.ref 122), some (.int x3)] [] (cw κ cs I J W) (.inl none) (cw κ cs r J W)) (x3 : Int32) (I : (Nat → Nat → Int32)) (r : (Nat → Nat → Int32)) (h : bd_134_97_128_122_1  c1 x3 I = some r) : tt d me_134 bk_134_1 [none, some (.ref 128), some (.ref 122), some (.int x3)] [] (cw κ cs I J W) (.inl none) (cw κ cs r J W) :=
  tt_I (L1 := (bk_134_1.drop 4)) (L2 := bk_134_2) 4 [none, some (.ref 128), some (.ref 122), some (.int x3)] [] (cw κ cs I J W) h (fun _ => rfl) (fun h =>
  tt_J (L1 := (bk_134_1.drop 8)) 3 [none, some (.ref 128), some (.ref 122), some (.int x3)] [.int x3, .ref 128, .int x3, .ref 122] (cw κ cs I J W) (fun _ => rfl) (
  tt_Qi rfl h fun h =>
  let I1 := up I 122 (x3).toNatClampNeg (I 128 (x3).toNatClampNeg)
  tt_Wi rfl (Nat.le_of_ble_eq_true rfl) h fun h =>
  tt_J (L1 := bk_134_1) 1 [none, some (.ref 128), some (.ref 122), some (.int (x3 + (1 : Int32)))] [] (cw κ cs I1 J W) (fun _ => rfl) (tt_F [none, some (.ref 128), some (.ref 122), some (.int (x3 + (1 : Int32)))] (And.intro rfl (And.intro rfl (And.intro rfl trivial))) (k1 (x3 + (1 : Int32)) I1 _ h)))) (fun h =>
  tt_R 1 (fun r => (.inl none)) (fun r => (cw κ cs r J W)) h (fun _ => rfl))
theorem tn_134_97_128_122_1 {d : Nat} {κ : Nat × Option Nat} {cs : Nat × Nat} {J : Nat → Nat → Int64} {W : Nat} : ∀ (n : Nat) (x3 : Int32) (I : (Nat → Nat → Int32)) (r : (Nat → Nat → Int32)), fx (fun _ _ => none) (bd_134_97_128_122_1 ) n x3 I = some r → tt d me_134 bk_134_1 [none, some (.ref 128), some (.ref 122), some (.int x3)] [] (cw κ cs I J W) (.inl none) (cw κ cs r J W)
  | 0 => fun _ _ _ h => nomatch h
  | n + 1 => fun x3 I r h => tb_134_97_128_122_1  (fx _ (bd_134_97_128_122_1 ) n) (tn_134_97_128_122_1  n) x3 I r h
theorem tl_134_97_128_122_1 {d : Nat} {κ : Nat × Option Nat} {cs : Nat × Nat} {J : Nat → Nat → Int64} {W : Nat} (x3 : Int32) (I : (Nat → Nat → Int32)) (r : (Nat → Nat → Int32)) (h : lb_134_97_128_122_1  x3 I = some r) : tt d me_134 bk_134_1 [none, some (.ref 128), some (.ref 122), some (.int x3)] [] (cw κ cs I J W) (.inl none) (cw κ cs r J W) := tn_134_97_128_122_1  FU x3 I r h
theorem m_134_97_128_122 {d : Nat} {κ : Nat × Option Nat} {cs : Nat × Nat} {J : Nat → Nat → Int64} {W : Nat} {I : (Nat → Nat → Int32)} {r : (Nat → Nat → Int32)} (h : f_134_97_128_122  I = some r) : tm d 134 [.ref 97, .ref 128, .ref 122] (cw κ cs I J W) (.inl none) (cw κ cs r J W) :=
  tm_of me_134 rfl (Nat.le_of_ble_eq_true rfl) (
  tt_J (L1 := bk_134_1) 1 [some (.ref 97), some (.ref 128), some (.ref 122), some (.int (0 : Int32))] [] (cw κ cs I J W) (fun _ => rfl) (tt_F [none, some (.ref 128), some (.ref 122), some (.int (0 : Int32))] (And.intro rfl (And.intro rfl (And.intro rfl trivial))) (tl_134_97_128_122_1  (0 : Int32) I _ h)))
/- 134 -/
def bd_134_97_129_123_1 (c1 : Int32 → (Nat → Nat → Int32) → Option (Nat → Nat → Int32)) (x3 : Int32) (I : (Nat → Nat → Int32)) : Option (Nat → Nat → Int32) :=
  (if x3 < (nI 60) then (if ex_in x3 60 then (if ex_in x3 60 then let I1 := up I 123 (x3).toNatClampNeg (I 129 (x3).toNatClampNeg)
  (c1 (x3 + (1 : Int32)) I1) else none) else none) else (some I))
def lb_134_97_129_123_1 : Int32 → (Nat → Nat → Int32) → Option (Nat → Nat → Int32) := fx (fun _ _ => none) (bd_134_97_129_123_1 ) FU
def f_134_97_129_123 (I : (Nat → Nat → Int32)) : Option (Nat → Nat → Int32) :=
  (lb_134_97_129_123_1  (0 : Int32) I)
theorem tb_134_97_129_123_1 {d : Nat} {κ : Nat × Option Nat} {cs : Nat × Nat} {J : Nat → Nat → Int64} {W : Nat} (c1 : Int32 → (Nat → Nat → Int32) → Option (Nat → Nat → Int32)) (k1 : ∀ (x3 : Int32) (I : (Nat → Nat → Int32)) (r : (Nat → Nat → Int32)), c1 x3 I = some r → tt d me_134 bk_134_1 [none, some (.ref 129), some (.ref 123), some (.int x3)] [] (cw κ cs I J W) (.inl none) (cw κ cs r J W)) (x3 : Int32) (I : (Nat → Nat → Int32)) (r : (Nat → Nat → Int32)) (h : bd_134_97_129_123_1  c1 x3 I = some r) : tt d me_134 bk_134_1 [none, some (.ref 129), some (.ref 123), some (.int x3)] [] (cw κ cs I J W) (.inl none) (cw κ cs r J W) :=
  tt_I (L1 := (bk_134_1.drop 4)) (L2 := bk_134_2) 4 [none, some (.ref 129), some (.ref 123), some (.int x3)] [] (cw κ cs I J W) h (fun _ => rfl) (fun h =>
  tt_J (L1 := (bk_134_1.drop 8)) 3 [none, some (.ref 129), some (.ref 123), some (.int x3)] [.int x3, .ref 129, .int x3, .ref 123] (cw κ cs I J W) (fun _ => rfl) (
  tt_Qi rfl h fun h =>
  let I1 := up I 123 (x3).toNatClampNeg (I 129 (x3).toNatClampNeg)
  tt_Wi rfl (Nat.le_of_ble_eq_true rfl) h fun h =>
  tt_J (L1 := bk_134_1) 1 [none, some (.ref 129), some (.ref 123), some (.int (x3 + (1 : Int32)))] [] (cw κ cs I1 J W) (fun _ => rfl) (tt_F [none, some (.ref 129), some (.ref 123), some (.int (x3 + (1 : Int32)))] (And.intro rfl (And.intro rfl (And.intro rfl trivial))) (k1 (x3 + (1 : Int32)) I1 _ h)))) (fun h =>
  tt_R 1 (fun r => (.inl none)) (fun r => (cw κ cs r J W)) h (fun _ => rfl))
theorem tn_134_97_129_123_1 {d : Nat} {κ : Nat × Option Nat} {cs : Nat × Nat} {J : Nat → Nat → Int64} {W : Nat} : ∀ (n : Nat) (x3 : Int32) (I : (Nat → Nat → Int32)) (r : (Nat → Nat → Int32)), fx (fun _ _ => none) (bd_134_97_129_123_1 ) n x3 I = some r → tt d me_134 bk_134_1 [none, some (.ref 129), some (.ref 123), some (.int x3)] [] (cw κ cs I J W) (.inl none) (cw κ cs r J W)
  | 0 => fun _ _ _ h => nomatch h
  | n + 1 => fun x3 I r h => tb_134_97_129_123_1  (fx _ (bd_134_97_129_123_1 ) n) (tn_134_97_129_123_1  n) x3 I r h
theorem tl_134_97_129_123_1 {d : Nat} {κ : Nat × Option Nat} {cs : Nat × Nat} {J : Nat → Nat → Int64} {W : Nat} (x3 : Int32) (I : (Nat → Nat → Int32)) (r : (Nat → Nat → Int32)) (h : lb_134_97_129_123_1  x3 I = some r) : tt d me_134 bk_134_1 [none, some (.ref 129), some (.ref 123), some (.int x3)] [] (cw κ cs I J W) (.inl none) (cw κ cs r J W) := tn_134_97_129_123_1  FU x3 I r h
theorem m_134_97_129_123 {d : Nat} {κ : Nat × Option Nat} {cs : Nat × Nat} {J : Nat → Nat → Int64} {W : Nat} {I : (Nat → Nat → Int32)} {r : (Nat → Nat → Int32)} (h : f_134_97_129_123  I = some r) : tm d 134 [.ref 97, .ref 129, .ref 123] (cw κ cs I J W) (.inl none) (cw κ cs r J W) :=
  tm_of me_134 rfl (Nat.le_of_ble_eq_true rfl) (
  tt_J (L1 := bk_134_1) 1 [some (.ref 97), some (.ref 129), some (.ref 123), some (.int (0 : Int32))] [] (cw κ cs I J W) (fun _ => rfl) (tt_F [none, some (.ref 129), some (.ref 123), some (.int (0 : Int32))] (And.intro rfl (And.intro rfl (And.intro rfl trivial))) (tl_134_97_129_123_1  (0 : Int32) I _ h)))
/- 134 -/
def bd_134_97_130_124_1 (c1 : Int32 → (Nat → Nat → Int32) → Option (Nat → Nat → Int32)) (x3 : Int32) (I : (Nat → Nat → Int32)) : Option (Nat → Nat → Int32) :=
  (if x3 < (nI 60) then (if ex_in x3 60 then (if ex_in x3 60 then let I1 := up I 124 (x3).toNatClampNeg (I 130 (x3).toNatClampNeg)
  (c1 (x3 + (1 : Int32)) I1) else none) else none) else (some I))
def lb_134_97_130_124_1 : Int32 → (Nat → Nat → Int32) → Option (Nat → Nat → Int32) := fx (fun _ _ => none) (bd_134_97_130_124_1 ) FU
def f_134_97_130_124 (I : (Nat → Nat → Int32)) : Option (Nat → Nat → Int32) :=
  (lb_134_97_130_124_1  (0 : Int32) I)
theorem tb_134_97_130_124_1 {d : Nat} {κ : Nat × Option Nat} {cs : Nat × Nat} {J : Nat → Nat → Int64} {W : Nat} (c1 : Int32 → (Nat → Nat → Int32) → Option (Nat → Nat → Int32)) (k1 : ∀ (x3 : Int32) (I : (Nat → Nat → Int32)) (r : (Nat → Nat → Int32)), c1 x3 I = some r → tt d me_134 bk_134_1 [none, some (.ref 130), some (.ref 124), some (.int x3)] [] (cw κ cs I J W) (.inl none) (cw κ cs r J W)) (x3 : Int32) (I : (Nat → Nat → Int32)) (r : (Nat → Nat → Int32)) (h : bd_134_97_130_124_1  c1 x3 I = some r) : tt d me_134 bk_134_1 [none, some (.ref 130), some (.ref 124), some (.int x3)] [] (cw κ cs I J W) (.inl none) (cw κ cs r J W) :=
  tt_I (L1 := (bk_134_1.drop 4)) (L2 := bk_134_2) 4 [none, some (.ref 130), some (.ref 124), some (.int x3)] [] (cw κ cs I J W) h (fun _ => rfl) (fun h =>
  tt_J (L1 := (bk_134_1.drop 8)) 3 [none, some (.ref 130), some (.ref 124), some (.int x3)] [.int x3, .ref 130, .int x3, .ref 124] (cw κ cs I J W) (fun _ => rfl) (
  tt_Qi rfl h fun h =>
  let I1 := up I 124 (x3).toNatClampNeg (I 130 (x3).toNatClampNeg)
  tt_Wi rfl (Nat.le_of_ble_eq_true rfl) h fun h =>
  tt_J (L1 := bk_134_1) 1 [none, some (.ref 130), some (.ref 124), some (.int (x3 + (1 : Int32)))] [] (cw κ cs I1 J W) (fun _ => rfl) (tt_F [none, some (.ref 130), some (.ref 124), some (.int (x3 + (1 : Int32)))] (And.intro rfl (And.intro rfl (And.intro rfl trivial))) (k1 (x3 + (1 : Int32)) I1 _ h)))) (fun h =>
  tt_R 1 (fun r => (.inl none)) (fun r => (cw κ cs r J W)) h (fun _ => rfl))
theorem tn_134_97_130_124_1 {d : Nat} {κ : Nat × Option Nat} {cs : Nat × Nat} {J : Nat → Nat → Int64} {W : Nat} : ∀ (n : Nat) (x3 : Int32) (I : (Nat → Nat → Int32)) (r : (Nat → Nat → Int32)), fx (fun _ _ => none) (bd_134_97_130_124_1 ) n x3 I = some r → tt d me_134 bk_134_1 [none, some (.ref 130), some (.ref 124), some (.int x3)] [] (cw κ cs I J W) (.inl none) (cw κ cs r J W)
  | 0 => fun _ _ _ h => nomatch h
  | n + 1 => fun x3 I r h => tb_134_97_130_124_1  (fx _ (bd_134_97_130_124_1 ) n) (tn_134_97_130_124_1  n) x3 I r h
theorem tl_134_97_130_124_1 {d : Nat} {κ : Nat × Option Nat} {cs : Nat × Nat} {J : Nat → Nat → Int64} {W : Nat} (x3 : Int32) (I : (Nat → Nat → Int32)) (r : (Nat → Nat → Int32)) (h : lb_134_97_130_124_1  x3 I = some r) : tt d me_134 bk_134_1 [none, some (.ref 130), some (.ref 124), some (.int x3)] [] (cw κ cs I J W) (.inl none) (cw κ cs r J W) := tn_134_97_130_124_1  FU x3 I r h
theorem m_134_97_130_124 {d : Nat} {κ : Nat × Option Nat} {cs : Nat × Nat} {J : Nat → Nat → Int64} {W : Nat} {I : (Nat → Nat → Int32)} {r : (Nat → Nat → Int32)} (h : f_134_97_130_124  I = some r) : tm d 134 [.ref 97, .ref 130, .ref 124] (cw κ cs I J W) (.inl none) (cw κ cs r J W) :=
  tm_of me_134 rfl (Nat.le_of_ble_eq_true rfl) (
  tt_J (L1 := bk_134_1) 1 [some (.ref 97), some (.ref 130), some (.ref 124), some (.int (0 : Int32))] [] (cw κ cs I J W) (fun _ => rfl) (tt_F [none, some (.ref 130), some (.ref 124), some (.int (0 : Int32))] (And.intro rfl (And.intro rfl (And.intro rfl trivial))) (tl_134_97_130_124_1  (0 : Int32) I _ h)))
/- 134 -/
def bd_134_97_131_125_1 (c1 : Int32 → (Nat → Nat → Int32) → Option (Nat → Nat → Int32)) (x3 : Int32) (I : (Nat → Nat → Int32)) : Option (Nat → Nat → Int32) :=
  (if x3 < (nI 1200) then (if ex_in x3 1200 then (if ex_in x3 1200 then let I1 := up I 125 (x3).toNatClampNeg (I 131 (x3).toNatClampNeg)
  (c1 (x3 + (1 : Int32)) I1) else none) else none) else (some I))
def lb_134_97_131_125_1 : Int32 → (Nat → Nat → Int32) → Option (Nat → Nat → Int32) := fx (fun _ _ => none) (bd_134_97_131_125_1 ) FU
def f_134_97_131_125 (I : (Nat → Nat → Int32)) : Option (Nat → Nat → Int32) :=
  (lb_134_97_131_125_1  (0 : Int32) I)
theorem tb_134_97_131_125_1 {d : Nat} {κ : Nat × Option Nat} {cs : Nat × Nat} {J : Nat → Nat → Int64} {W : Nat} (c1 : Int32 → (Nat → Nat → Int32) → Option (Nat → Nat → Int32)) (k1 : ∀ (x3 : Int32) (I : (Nat → Nat → Int32)) (r : (Nat → Nat → Int32)), c1 x3 I = some r → tt d me_134 bk_134_1 [none, some (.ref 131), some (.ref 125), some (.int x3)] [] (cw κ cs I J W) (.inl none) (cw κ cs r J W)) (x3 : Int32) (I : (Nat → Nat → Int32)) (r : (Nat → Nat → Int32)) (h : bd_134_97_131_125_1  c1 x3 I = some r) : tt d me_134 bk_134_1 [none, some (.ref 131), some (.ref 125), some (.int x3)] [] (cw κ cs I J W) (.inl none) (cw κ cs r J W) :=
  tt_I (L1 := (bk_134_1.drop 4)) (L2 := bk_134_2) 4 [none, some (.ref 131), some (.ref 125), some (.int x3)] [] (cw κ cs I J W) h (fun _ => rfl) (fun h =>
  tt_J (L1 := (bk_134_1.drop 8)) 3 [none, some (.ref 131), some (.ref 125), some (.int x3)] [.int x3, .ref 131, .int x3, .ref 125] (cw κ cs I J W) (fun _ => rfl) (
  tt_Qi rfl h fun h =>
  let I1 := up I 125 (x3).toNatClampNeg (I 131 (x3).toNatClampNeg)
  tt_Wi rfl (Nat.le_of_ble_eq_true rfl) h fun h =>
  tt_J (L1 := bk_134_1) 1 [none, some (.ref 131), some (.ref 125), some (.int (x3 + (1 : Int32)))] [] (cw κ cs I1 J W) (fun _ => rfl) (tt_F [none, some (.ref 131), some (.ref 125), some (.int (x3 + (1 : Int32)))] (And.intro rfl (And.intro rfl (And.intro rfl trivial))) (k1 (x3 + (1 : Int32)) I1 _ h)))) (fun h =>
  tt_R 1 (fun r => (.inl none)) (fun r => (cw κ cs r J W)) h (fun _ => rfl))
theorem tn_134_97_131_125_1 {d : Nat} {κ : Nat × Option Nat} {cs : Nat × Nat} {J : Nat → Nat → Int64} {W : Nat} : ∀ (n : Nat) (x3 : Int32) (I : (Nat → Nat → Int32)) (r : (Nat → Nat → Int32)), fx (fun _ _ => none) (bd_134_97_131_125_1 ) n x3 I = some r → tt d me_134 bk_134_1 [none, some (.ref 131), some (.ref 125), some (.int x3)] [] (cw κ cs I J W) (.inl none) (cw κ cs r J W)
  | 0 => fun _ _ _ h => nomatch h
  | n + 1 => fun x3 I r h => tb_134_97_131_125_1  (fx _ (bd_134_97_131_125_1 ) n) (tn_134_97_131_125_1  n) x3 I r h
theorem tl_134_97_131_125_1 {d : Nat} {κ : Nat × Option Nat} {cs : Nat × Nat} {J : Nat → Nat → Int64} {W : Nat} (x3 : Int32) (I : (Nat → Nat → Int32)) (r : (Nat → Nat → Int32)) (h : lb_134_97_131_125_1  x3 I = some r) : tt d me_134 bk_134_1 [none, some (.ref 131), some (.ref 125), some (.int x3)] [] (cw κ cs I J W) (.inl none) (cw κ cs r J W) := tn_134_97_131_125_1  FU x3 I r h
theorem m_134_97_131_125 {d : Nat} {κ : Nat × Option Nat} {cs : Nat × Nat} {J : Nat → Nat → Int64} {W : Nat} {I : (Nat → Nat → Int32)} {r : (Nat → Nat → Int32)} (h : f_134_97_131_125  I = some r) : tm d 134 [.ref 97, .ref 131, .ref 125] (cw κ cs I J W) (.inl none) (cw κ cs r J W) :=
  tm_of me_134 rfl (Nat.le_of_ble_eq_true rfl) (
  tt_J (L1 := bk_134_1) 1 [some (.ref 97), some (.ref 131), some (.ref 125), some (.int (0 : Int32))] [] (cw κ cs I J W) (fun _ => rfl) (tt_F [none, some (.ref 131), some (.ref 125), some (.int (0 : Int32))] (And.intro rfl (And.intro rfl (And.intro rfl trivial))) (tl_134_97_131_125_1  (0 : Int32) I _ h)))
/- 134 -/
def bd_134_97_132_126_1 (c1 : Int32 → (Nat → Nat → Int32) → Option (Nat → Nat → Int32)) (x3 : Int32) (I : (Nat → Nat → Int32)) : Option (Nat → Nat → Int32) :=
  (if x3 < (nI 1200) then (if ex_in x3 1200 then (if ex_in x3 1200 then let I1 := up I 126 (x3).toNatClampNeg (I 132 (x3).toNatClampNeg)
  (c1 (x3 + (1 : Int32)) I1) else none) else none) else (some I))
def lb_134_97_132_126_1 : Int32 → (Nat → Nat → Int32) → Option (Nat → Nat → Int32) := fx (fun _ _ => none) (bd_134_97_132_126_1 ) FU
def f_134_97_132_126 (I : (Nat → Nat → Int32)) : Option (Nat → Nat → Int32) :=
  (lb_134_97_132_126_1  (0 : Int32) I)
theorem tb_134_97_132_126_1 {d : Nat} {κ : Nat × Option Nat} {cs : Nat × Nat} {J : Nat → Nat → Int64} {W : Nat} (c1 : Int32 → (Nat → Nat → Int32) → Option (Nat → Nat → Int32)) (k1 : ∀ (x3 : Int32) (I : (Nat → Nat → Int32)) (r : (Nat → Nat → Int32)), c1 x3 I = some r → tt d me_134 bk_134_1 [none, some (.ref 132), some (.ref 126), some (.int x3)] [] (cw κ cs I J W) (.inl none) (cw κ cs r J W)) (x3 : Int32) (I : (Nat → Nat → Int32)) (r : (Nat → Nat → Int32)) (h : bd_134_97_132_126_1  c1 x3 I = some r) : tt d me_134 bk_134_1 [none, some (.ref 132), some (.ref 126), some (.int x3)] [] (cw κ cs I J W) (.inl none) (cw κ cs r J W) :=
  tt_I (L1 := (bk_134_1.drop 4)) (L2 := bk_134_2) 4 [none, some (.ref 132), some (.ref 126), some (.int x3)] [] (cw κ cs I J W) h (fun _ => rfl) (fun h =>
  tt_J (L1 := (bk_134_1.drop 8)) 3 [none, some (.ref 132), some (.ref 126), some (.int x3)] [.int x3, .ref 132, .int x3, .ref 126] (cw κ cs I J W) (fun _ => rfl) (
  tt_Qi rfl h fun h =>
  let I1 := up I 126 (x3).toNatClampNeg (I 132 (x3).toNatClampNeg)
  tt_Wi rfl (Nat.le_of_ble_eq_true rfl) h fun h =>
  tt_J (L1 := bk_134_1) 1 [none, some (.ref 132), some (.ref 126), some (.int (x3 + (1 : Int32)))] [] (cw κ cs I1 J W) (fun _ => rfl) (tt_F [none, some (.ref 132), some (.ref 126), some (.int (x3 + (1 : Int32)))] (And.intro rfl (And.intro rfl (And.intro rfl trivial))) (k1 (x3 + (1 : Int32)) I1 _ h)))) (fun h =>
  tt_R 1 (fun r => (.inl none)) (fun r => (cw κ cs r J W)) h (fun _ => rfl))
theorem tn_134_97_132_126_1 {d : Nat} {κ : Nat × Option Nat} {cs : Nat × Nat} {J : Nat → Nat → Int64} {W : Nat} : ∀ (n : Nat) (x3 : Int32) (I : (Nat → Nat → Int32)) (r : (Nat → Nat → Int32)), fx (fun _ _ => none) (bd_134_97_132_126_1 ) n x3 I = some r → tt d me_134 bk_134_1 [none, some (.ref 132), some (.ref 126), some (.int x3)] [] (cw κ cs I J W) (.inl none) (cw κ cs r J W)
  | 0 => fun _ _ _ h => nomatch h
  | n + 1 => fun x3 I r h => tb_134_97_132_126_1  (fx _ (bd_134_97_132_126_1 ) n) (tn_134_97_132_126_1  n) x3 I r h
theorem tl_134_97_132_126_1 {d : Nat} {κ : Nat × Option Nat} {cs : Nat × Nat} {J : Nat → Nat → Int64} {W : Nat} (x3 : Int32) (I : (Nat → Nat → Int32)) (r : (Nat → Nat → Int32)) (h : lb_134_97_132_126_1  x3 I = some r) : tt d me_134 bk_134_1 [none, some (.ref 132), some (.ref 126), some (.int x3)] [] (cw κ cs I J W) (.inl none) (cw κ cs r J W) := tn_134_97_132_126_1  FU x3 I r h
theorem m_134_97_132_126 {d : Nat} {κ : Nat × Option Nat} {cs : Nat × Nat} {J : Nat → Nat → Int64} {W : Nat} {I : (Nat → Nat → Int32)} {r : (Nat → Nat → Int32)} (h : f_134_97_132_126  I = some r) : tm d 134 [.ref 97, .ref 132, .ref 126] (cw κ cs I J W) (.inl none) (cw κ cs r J W) :=
  tm_of me_134 rfl (Nat.le_of_ble_eq_true rfl) (
  tt_J (L1 := bk_134_1) 1 [some (.ref 97), some (.ref 132), some (.ref 126), some (.int (0 : Int32))] [] (cw κ cs I J W) (fun _ => rfl) (tt_F [none, some (.ref 132), some (.ref 126), some (.int (0 : Int32))] (And.intro rfl (And.intro rfl (And.intro rfl trivial))) (tl_134_97_132_126_1  (0 : Int32) I _ h)))
/- 209 -/
def f_209 (I : (Nat → Nat → Int32)) : Option (Int32 × (Nat → Nat → Int32)) :=
  (let I1 := up I 97 0 (0 : Int32)
  (if (I1 97 59) = 0 then (some ((0 : Int32), I1)) else (let I2 := up I1 97 52 (I1 97 60)
  ((f_134_97_128_122  I2).bind fun q3 => ((f_134_97_129_123  q3).bind fun q4 => ((f_134_97_130_124  q4).bind fun q5 => ((f_134_97_131_125  q5).bind fun q6 => ((f_134_97_132_126  q6).bind fun q7 => (some ((1 : Int32), q7))))))))))
theorem m_209 {d : Nat} {κ : Nat × Option Nat} {cs : Nat × Nat} {J : Nat → Nat → Int64} {W : Nat} {I : (Nat → Nat → Int32)} {r : (Int32 × (Nat → Nat → Int32))} (h : f_209  I = some r) : tm (d + 1) 209 [.ref 97] (cw κ cs I J W) (.inl (some (.int r.1))) (cw κ cs r.2 J W) :=
  tm_of me_209 rfl (Nat.le_of_ble_eq_true rfl) (
  let I1 := up I 97 0 (0 : Int32)
  tt_I (L1 := (bk_209_0.drop 6)) (L2 := bk_209_1) 6 [some (.ref 97)] [] (cw κ cs I1 J W) h (fun _ => rfl) (fun h =>
  tt_R 2 (fun r => (.inl (some (.int r.1)))) (fun r => (cw κ cs r.2 J W)) h (fun _ => rfl)) (fun h =>
  let I2 := up I1 97 52 (I1 97 60)
  tt_C (L1 := (bk_209_1.drop 10)) 10 [some (.ref 97)] [] (cw κ cs I2 J W) h (fun _ => rfl) (fun _ e => m_134_97_128_122 (d := d) e) fun q3 h =>
  tt_C (L1 := (bk_209_1.drop 16)) 6 [some (.ref 97)] [] (cw κ cs q3 J W) h (fun _ => rfl) (fun _ e => m_134_97_129_123 (d := d) e) fun q4 h =>
  tt_C (L1 := (bk_209_1.drop 22)) 6 [some (.ref 97)] [] (cw κ cs q4 J W) h (fun _ => rfl) (fun _ e => m_134_97_130_124 (d := d) e) fun q5 h =>
  tt_C (L1 := (bk_209_1.drop 28)) 6 [some (.ref 97)] [] (cw κ cs q5 J W) h (fun _ => rfl) (fun _ e => m_134_97_131_125 (d := d) e) fun q6 h =>
  tt_C (L1 := (bk_209_1.drop 34)) 6 [some (.ref 97)] [] (cw κ cs q6 J W) h (fun _ => rfl) (fun _ e => m_134_97_132_126 (d := d) e) fun q7 h =>
  tt_R 2 (fun r => (.inl (some (.int r.1)))) (fun r => (cw κ cs r.2 J W)) h (fun _ => rfl)))
