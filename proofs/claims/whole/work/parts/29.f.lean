/-! functions, by wip/whole/sy.py -/
/- 168 -/
def bd_168_7 (c7 : Int32 → Int32 → (Nat → Nat → Int32) → Option (Nat → Nat → Int32)) (x6 : Int32) (x7 : Int32) (I : (Nat → Nat → Int32)) : Option (Nat → Nat → Int32) :=
  (if x7 < (I 97 2) then (if ex_in x7 6 then (if ex_in (I 114 (x7).toNatClampNeg) 6 then let I1 := up I 113 ((I 114 (x7).toNatClampNeg)).toNatClampNeg x6
  (if ex_in x7 6 then (if ex_in (I1 114 (x7).toNatClampNeg) 6 then (c7 (x6 + (I1 112 ((I1 114 (x7).toNatClampNeg)).toNatClampNeg)) (x7 + (1 : Int32)) I1) else none) else none) else none) else none) else (some I))
def lb_168_7 : Int32 → Int32 → (Nat → Nat → Int32) → Option (Nat → Nat → Int32) := fx (fun _ _ _ => none) (bd_168_7 ) FU
def lb_168_6 (I : (Nat → Nat → Int32)) : Option (Nat → Nat → Int32) :=
  (lb_168_7  (0 : Int32) (0 : Int32) I)
def lb_168_4 (c1 : Int32 → Int32 → Int32 → Int32 → Int32 → Int32 → (Nat → Nat → Int32) → Option (Nat → Nat → Int32)) (x1 : Int32) (x2 : Int32) (x3 : Int32) (x4 : Int32) (x5 : Int32) (x6 : Int32) (I : (Nat → Nat → Int32)) : Option (Nat → Nat → Int32) :=
  (c1 x1 x2 x3 x4 x5 (x6 + (1 : Int32)) I)
def lb_168_3 (c1 : Int32 → Int32 → Int32 → Int32 → Int32 → Int32 → (Nat → Nat → Int32) → Option (Nat → Nat → Int32)) (x1 : Int32) (x2 : Int32) (x3 : Int32) (x4 : Int32) (x5 : Int32) (x6 : Int32) (I : (Nat → Nat → Int32)) : Option (Nat → Nat → Int32) :=
  (if ex_in x4 6 then let I3 := up I 114 (x4).toNatClampNeg x6
  (lb_168_4 c1 x1 x2 x3 (x4 + (1 : Int32)) (x5 + (1 : Int32)) x6 I3) else none)
def bd_168_1 (c1 : Int32 → Int32 → Int32 → Int32 → Int32 → Int32 → (Nat → Nat → Int32) → Option (Nat → Nat → Int32)) (x1 : Int32) (x2 : Int32) (x3 : Int32) (x4 : Int32) (x5 : Int32) (x6 : Int32) (I : (Nat → Nat → Int32)) : Option (Nat → Nat → Int32) :=
  (if x6 < (I 97 2) then (if x6 = x1 then (lb_168_4 c1 x1 x2 x3 x4 x5 x6 I) else (if x6 = x2 then (lb_168_4 c1 x1 x2 x3 x4 x5 x6 I) else (if x5 = x3 then ((f_169 x4 x1 x2 I).bind fun q4 => (lb_168_3 c1 x1 x2 x3 q4.1 x5 x6 q4.2)) else (lb_168_3 c1 x1 x2 x3 x4 x5 x6 I)))) else (if x3 < x5 then (lb_168_6   I) else ((f_169 x4 x1 x2 I).bind fun q2 => (lb_168_6   q2.2))))
def lb_168_1 : Int32 → Int32 → Int32 → Int32 → Int32 → Int32 → (Nat → Nat → Int32) → Option (Nat → Nat → Int32) := fx (fun _ _ _ _ _ _ _ => none) (bd_168_1 ) FU
def f_168 (x1 : Int32) (x2 : Int32) (x3 : Int32) (I : (Nat → Nat → Int32)) : Option (Nat → Nat → Int32) :=
  (lb_168_1  x1 x2 x3 (0 : Int32) (0 : Int32) (0 : Int32) I)
theorem tb_168_7 {d : Nat} {κ : Nat × Option Nat} {cs : Nat × Nat} {J : Nat → Nat → Int64} {W : Nat} (c7 : Int32 → Int32 → (Nat → Nat → Int32) → Option (Nat → Nat → Int32)) (k7 : ∀ (x6 : Int32) (x7 : Int32) (I : (Nat → Nat → Int32)) (r : (Nat → Nat → Int32)), c7 x6 x7 I = some r → tt (d + 1) me_168 bk_168_7 [some (.ref 97), none, none, none, none, none, some (.int x6), some (.int x7)] [] (cw κ cs I J W) (.inl none) (cw κ cs r J W)) (x6 : Int32) (x7 : Int32) (I : (Nat → Nat → Int32)) (r : (Nat → Nat → Int32)) (h : bd_168_7  c7 x6 x7 I = some r) : tt (d + 1) me_168 bk_168_7 [some (.ref 97), none, none, none, none, none, some (.int x6), some (.int x7)] [] (cw κ cs I J W) (.inl none) (cw κ cs r J W) :=
  tt_I (L1 := (bk_168_7.drop 4)) (L2 := bk_168_8) 4 [some (.ref 97), none, none, none, none, none, some (.int x6), some (.int x7)] [] (cw κ cs I J W) h (fun _ => rfl) (fun h =>
  tt_J (L1 := (bk_168_7.drop 9)) 4 [some (.ref 97), none, none, none, none, none, some (.int x6), some (.int x7)] [.int x7, .ref 114, .ref 113] (cw κ cs I J W) (fun _ => rfl) (
  tt_Qi rfl h fun h =>
  let I1 := up I 113 ((I 114 (x7).toNatClampNeg)).toNatClampNeg x6
  tt_J (L1 := (bk_168_7.drop 11)) 0 [some (.ref 97), none, none, none, none, none, some (.int x6), some (.int x7)] [.int x6, .int (I 114 (x7).toNatClampNeg), .ref 113] (cw κ cs I J W) (fun _ => rfl) (
  tt_Wi rfl (Nat.le_of_ble_eq_true rfl) h fun h =>
  tt_J (L1 := (bk_168_7.drop 18)) 5 [some (.ref 97), none, none, none, none, none, some (.int x6), some (.int x7)] [.int x7, .ref 114, .ref 112, .int x6] (cw κ cs I1 J W) (fun _ => rfl) (
  tt_Qi rfl h fun h =>
  tt_Qi rfl h fun h =>
  tt_J (L1 := bk_168_7) 3 [some (.ref 97), none, none, none, none, none, some (.int (x6 + (I1 112 ((I1 114 (x7).toNatClampNeg)).toNatClampNeg))), some (.int (x7 + (1 : Int32)))] [] (cw κ cs I1 J W) (fun _ => rfl) (tt_F [some (.ref 97), none, none, none, none, none, some (.int (x6 + (I1 112 ((I1 114 (x7).toNatClampNeg)).toNatClampNeg))), some (.int (x7 + (1 : Int32)))] (And.intro rfl (And.intro rfl (And.intro rfl trivial))) (k7 (x6 + (I1 112 ((I1 114 (x7).toNatClampNeg)).toNatClampNeg)) (x7 + (1 : Int32)) I1 _ h)))))) (fun h =>
  tt_R 1 (fun r => (.inl none)) (fun r => (cw κ cs r J W)) h (fun _ => rfl))
theorem tn_168_7 {d : Nat} {κ : Nat × Option Nat} {cs : Nat × Nat} {J : Nat → Nat → Int64} {W : Nat} : ∀ (n : Nat) (x6 : Int32) (x7 : Int32) (I : (Nat → Nat → Int32)) (r : (Nat → Nat → Int32)), fx (fun _ _ _ => none) (bd_168_7 ) n x6 x7 I = some r → tt (d + 1) me_168 bk_168_7 [some (.ref 97), none, none, none, none, none, some (.int x6), some (.int x7)] [] (cw κ cs I J W) (.inl none) (cw κ cs r J W)
  | 0 => fun _ _ _ _ h => nomatch h
  | n + 1 => fun x6 x7 I r h => tb_168_7  (fx _ (bd_168_7 ) n) (tn_168_7  n) x6 x7 I r h
theorem tl_168_7 {d : Nat} {κ : Nat × Option Nat} {cs : Nat × Nat} {J : Nat → Nat → Int64} {W : Nat} (x6 : Int32) (x7 : Int32) (I : (Nat → Nat → Int32)) (r : (Nat → Nat → Int32)) (h : lb_168_7  x6 x7 I = some r) : tt (d + 1) me_168 bk_168_7 [some (.ref 97), none, none, none, none, none, some (.int x6), some (.int x7)] [] (cw κ cs I J W) (.inl none) (cw κ cs r J W) := tn_168_7  FU x6 x7 I r h
theorem tl_168_6 {d : Nat} {κ : Nat × Option Nat} {cs : Nat × Nat} {J : Nat → Nat → Int64} {W : Nat} (I : (Nat → Nat → Int32)) (r : (Nat → Nat → Int32)) (h : lb_168_6   I = some r) : tt (d + 1) me_168 bk_168_6 [some (.ref 97), none, none, none, none, none, none, none] [] (cw κ cs I J W) (.inl none) (cw κ cs r J W) :=
  tt_J (L1 := bk_168_7) 3 [some (.ref 97), none, none, none, none, none, some (.int (0 : Int32)), some (.int (0 : Int32))] [] (cw κ cs I J W) (fun _ => rfl) (tt_F [some (.ref 97), none, none, none, none, none, some (.int (0 : Int32)), some (.int (0 : Int32))] (And.intro rfl (And.intro rfl (And.intro rfl trivial))) (tl_168_7  (0 : Int32) (0 : Int32) I _ h))
theorem tl_168_4 {d : Nat} {κ : Nat × Option Nat} {cs : Nat × Nat} {J : Nat → Nat → Int64} {W : Nat} (c1 : Int32 → Int32 → Int32 → Int32 → Int32 → Int32 → (Nat → Nat → Int32) → Option (Nat → Nat → Int32)) (k1 : ∀ (x1 : Int32) (x2 : Int32) (x3 : Int32) (x4 : Int32) (x5 : Int32) (x6 : Int32) (I : (Nat → Nat → Int32)) (r : (Nat → Nat → Int32)), c1 x1 x2 x3 x4 x5 x6 I = some r → tt (d + 1) me_168 bk_168_1 [some (.ref 97), some (.int x1), some (.int x2), some (.int x3), some (.int x4), some (.int x5), some (.int x6), none] [] (cw κ cs I J W) (.inl none) (cw κ cs r J W)) (x1 : Int32) (x2 : Int32) (x3 : Int32) (x4 : Int32) (x5 : Int32) (x6 : Int32) (I : (Nat → Nat → Int32)) (r : (Nat → Nat → Int32)) (h : lb_168_4 c1 x1 x2 x3 x4 x5 x6 I = some r) : tt (d + 1) me_168 bk_168_4 [some (.ref 97), some (.int x1), some (.int x2), some (.int x3), some (.int x4), some (.int x5), some (.int x6), none] [] (cw κ cs I J W) (.inl none) (cw κ cs r J W) :=
  tt_J (L1 := bk_168_1) 1 [some (.ref 97), some (.int x1), some (.int x2), some (.int x3), some (.int x4), some (.int x5), some (.int (x6 + (1 : Int32))), none] [] (cw κ cs I J W) (fun _ => rfl) (tt_F [some (.ref 97), some (.int x1), some (.int x2), some (.int x3), some (.int x4), some (.int x5), some (.int (x6 + (1 : Int32))), none] (And.intro rfl (And.intro rfl (And.intro rfl (And.intro rfl (And.intro rfl (And.intro rfl (And.intro rfl trivial))))))) (k1 x1 x2 x3 x4 x5 (x6 + (1 : Int32)) I _ h))
theorem tl_168_3 {d : Nat} {κ : Nat × Option Nat} {cs : Nat × Nat} {J : Nat → Nat → Int64} {W : Nat} (c1 : Int32 → Int32 → Int32 → Int32 → Int32 → Int32 → (Nat → Nat → Int32) → Option (Nat → Nat → Int32)) (k1 : ∀ (x1 : Int32) (x2 : Int32) (x3 : Int32) (x4 : Int32) (x5 : Int32) (x6 : Int32) (I : (Nat → Nat → Int32)) (r : (Nat → Nat → Int32)), c1 x1 x2 x3 x4 x5 x6 I = some r → tt (d + 1) me_168 bk_168_1 [some (.ref 97), some (.int x1), some (.int x2), some (.int x3), some (.int x4), some (.int x5), some (.int x6), none] [] (cw κ cs I J W) (.inl none) (cw κ cs r J W)) (x1 : Int32) (x2 : Int32) (x3 : Int32) (x4 : Int32) (x5 : Int32) (x6 : Int32) (I : (Nat → Nat → Int32)) (r : (Nat → Nat → Int32)) (h : lb_168_3 c1 x1 x2 x3 x4 x5 x6 I = some r) : tt (d + 1) me_168 bk_168_3 [some (.ref 97), some (.int x1), some (.int x2), some (.int x3), some (.int x4), some (.int x5), some (.int x6), none] [] (cw κ cs I J W) (.inl none) (cw κ cs r J W) :=
  let I3 := up I 114 (x4).toNatClampNeg x6
  tt_J (L1 := (bk_168_3.drop 4)) 3 [some (.ref 97), some (.int x1), some (.int x2), some (.int x3), some (.int x4), some (.int x5), some (.int x6), none] [.int x6, .int x4, .ref 114] (cw κ cs I J W) (fun _ => rfl) (
  tt_Wi rfl (Nat.le_of_ble_eq_true rfl) h fun h =>
  tt_J (L1 := bk_168_4) 1 [some (.ref 97), some (.int x1), some (.int x2), some (.int x3), some (.int (x4 + (1 : Int32))), some (.int (x5 + (1 : Int32))), some (.int x6), none] [] (cw κ cs I3 J W) (fun _ => rfl) (tt_F [some (.ref 97), some (.int x1), some (.int x2), some (.int x3), some (.int (x4 + (1 : Int32))), some (.int (x5 + (1 : Int32))), some (.int x6), none] (And.intro rfl (And.intro rfl (And.intro rfl (And.intro rfl (And.intro rfl (And.intro rfl (And.intro rfl trivial))))))) (tl_168_4 c1 k1 x1 x2 x3 (x4 + (1 : Int32)) (x5 + (1 : Int32)) x6 I3 _ h)))
theorem tb_168_1 {d : Nat} {κ : Nat × Option Nat} {cs : Nat × Nat} {J : Nat → Nat → Int64} {W : Nat} (c1 : Int32 → Int32 → Int32 → Int32 → Int32 → Int32 → (Nat → Nat → Int32) → Option (Nat → Nat → Int32)) (k1 : ∀ (x1 : Int32) (x2 : Int32) (x3 : Int32) (x4 : Int32) (x5 : Int32) (x6 : Int32) (I : (Nat → Nat → Int32)) (r : (Nat → Nat → Int32)), c1 x1 x2 x3 x4 x5 x6 I = some r → tt (d + 1) me_168 bk_168_1 [some (.ref 97), some (.int x1), some (.int x2), some (.int x3), some (.int x4), some (.int x5), some (.int x6), none] [] (cw κ cs I J W) (.inl none) (cw κ cs r J W)) (x1 : Int32) (x2 : Int32) (x3 : Int32) (x4 : Int32) (x5 : Int32) (x6 : Int32) (I : (Nat → Nat → Int32)) (r : (Nat → Nat → Int32)) (h : bd_168_1  c1 x1 x2 x3 x4 x5 x6 I = some r) : tt (d + 1) me_168 bk_168_1 [some (.ref 97), some (.int x1), some (.int x2), some (.int x3), some (.int x4), some (.int x5), some (.int x6), none] [] (cw κ cs I J W) (.inl none) (cw κ cs r J W) :=
  tt_I (L1 := (bk_168_1.drop 4)) (L2 := bk_168_5) 4 [some (.ref 97), some (.int x1), some (.int x2), some (.int x3), some (.int x4), some (.int x5), some (.int x6), none] [] (cw κ cs I J W) h (fun _ => rfl) (fun h =>
  tt_I (L1 := bk_168_4) (L2 := (bk_168_1.drop 7)) 3 [some (.ref 97), some (.int x1), some (.int x2), some (.int x3), some (.int x4), some (.int x5), some (.int x6), none] [] (cw κ cs I J W) h (fun _ => rfl) (fun h =>
  tt_F [some (.ref 97), some (.int x1), some (.int x2), some (.int x3), some (.int x4), some (.int x5), some (.int x6), none] (And.intro rfl (And.intro rfl (And.intro rfl (And.intro rfl (And.intro rfl (And.intro rfl (And.intro rfl trivial))))))) (tl_168_4 c1 k1 x1 x2 x3 x4 x5 x6 I _ h)) (fun h =>
  tt_I (L1 := (bk_168_1.drop 10)) (L2 := bk_168_2) 3 [some (.ref 97), some (.int x1), some (.int x2), some (.int x3), some (.int x4), some (.int x5), some (.int x6), none] [] (cw κ cs I J W) h (fun _ => rfl) (fun h =>
  tt_J (L1 := bk_168_4) 0 [some (.ref 97), some (.int x1), some (.int x2), some (.int x3), some (.int x4), some (.int x5), some (.int x6), none] [] (cw κ cs I J W) (fun _ => rfl) (tt_F [some (.ref 97), some (.int x1), some (.int x2), some (.int x3), some (.int x4), some (.int x5), some (.int x6), none] (And.intro rfl (And.intro rfl (And.intro rfl (And.intro rfl (And.intro rfl (And.intro rfl (And.intro rfl trivial))))))) (tl_168_4 c1 k1 x1 x2 x3 x4 x5 x6 I _ h))) (fun h =>
  tt_I (L1 := (bk_168_2.drop 3)) (L2 := bk_168_3) 3 [some (.ref 97), some (.int x1), some (.int x2), some (.int x3), some (.int x4), some (.int x5), some (.int x6), none] [] (cw κ cs I J W) h (fun _ => rfl) (fun h =>
  tt_C (L1 := (bk_168_2.drop 8)) 5 [some (.ref 97), some (.int x1), some (.int x2), some (.int x3), some (.int x4), some (.int x5), some (.int x6), none] [] (cw κ cs I J W) h (fun _ => rfl) (fun _ e => m_169 (d := d) e) fun q4 h =>
  tt_J (L1 := bk_168_3) 0 [some (.ref 97), some (.int x1), some (.int x2), some (.int x3), some (.int q4.1), some (.int x5), some (.int x6), none] [] (cw κ cs q4.2 J W) (fun _ => rfl) (tt_F [some (.ref 97), some (.int x1), some (.int x2), some (.int x3), some (.int q4.1), some (.int x5), some (.int x6), none] (And.intro rfl (And.intro rfl (And.intro rfl (And.intro rfl (And.intro rfl (And.intro rfl (And.intro rfl trivial))))))) (tl_168_3 c1 k1 x1 x2 x3 q4.1 x5 x6 q4.2 _ h))) (fun h =>
  tt_F [some (.ref 97), some (.int x1), some (.int x2), some (.int x3), some (.int x4), some (.int x5), some (.int x6), none] (And.intro rfl (And.intro rfl (And.intro rfl (And.intro rfl (And.intro rfl (And.intro rfl (And.intro rfl trivial))))))) (tl_168_3 c1 k1 x1 x2 x3 x4 x5 x6 I _ h))))) (fun h =>
  tt_I (L1 := bk_168_6) (L2 := (bk_168_5.drop 3)) 3 [some (.ref 97), some (.int x1), some (.int x2), some (.int x3), some (.int x4), some (.int x5), some (.int x6), none] [] (cw κ cs I J W) h (fun _ => rfl) (fun h =>
  tt_F [some (.ref 97), none, none, none, none, none, none, none] (And.intro rfl trivial) (tl_168_6   I _ h)) (fun h =>
  tt_C (L1 := (bk_168_5.drop 8)) 5 [some (.ref 97), some (.int x1), some (.int x2), some (.int x3), some (.int x4), some (.int x5), some (.int x6), none] [] (cw κ cs I J W) h (fun _ => rfl) (fun _ e => m_169 (d := d) e) fun q2 h =>
  tt_J (L1 := bk_168_6) 0 [some (.ref 97), some (.int x1), some (.int x2), some (.int x3), some (.int x4), some (.int x5), some (.int x6), none] [] (cw κ cs q2.2 J W) (fun _ => rfl) (tt_F [some (.ref 97), none, none, none, none, none, none, none] (And.intro rfl trivial) (tl_168_6   q2.2 _ h))))
theorem tn_168_1 {d : Nat} {κ : Nat × Option Nat} {cs : Nat × Nat} {J : Nat → Nat → Int64} {W : Nat} : ∀ (n : Nat) (x1 : Int32) (x2 : Int32) (x3 : Int32) (x4 : Int32) (x5 : Int32) (x6 : Int32) (I : (Nat → Nat → Int32)) (r : (Nat → Nat → Int32)), fx (fun _ _ _ _ _ _ _ => none) (bd_168_1 ) n x1 x2 x3 x4 x5 x6 I = some r → tt (d + 1) me_168 bk_168_1 [some (.ref 97), some (.int x1), some (.int x2), some (.int x3), some (.int x4), some (.int x5), some (.int x6), none] [] (cw κ cs I J W) (.inl none) (cw κ cs r J W)
  | 0 => fun _ _ _ _ _ _ _ _ h => nomatch h
  | n + 1 => fun x1 x2 x3 x4 x5 x6 I r h => tb_168_1  (fx _ (bd_168_1 ) n) (tn_168_1  n) x1 x2 x3 x4 x5 x6 I r h
theorem tl_168_1 {d : Nat} {κ : Nat × Option Nat} {cs : Nat × Nat} {J : Nat → Nat → Int64} {W : Nat} (x1 : Int32) (x2 : Int32) (x3 : Int32) (x4 : Int32) (x5 : Int32) (x6 : Int32) (I : (Nat → Nat → Int32)) (r : (Nat → Nat → Int32)) (h : lb_168_1  x1 x2 x3 x4 x5 x6 I = some r) : tt (d + 1) me_168 bk_168_1 [some (.ref 97), some (.int x1), some (.int x2), some (.int x3), some (.int x4), some (.int x5), some (.int x6), none] [] (cw κ cs I J W) (.inl none) (cw κ cs r J W) := tn_168_1  FU x1 x2 x3 x4 x5 x6 I r h
theorem m_168 {d : Nat} {κ : Nat × Option Nat} {cs : Nat × Nat} {J : Nat → Nat → Int64} {W : Nat} {x1 : Int32} {x2 : Int32} {x3 : Int32} {I : (Nat → Nat → Int32)} {r : (Nat → Nat → Int32)} (h : f_168 x1 x2 x3 I = some r) : tm (d + 1) 168 [.ref 97, .int x1, .int x2, .int x3] (cw κ cs I J W) (.inl none) (cw κ cs r J W) :=
  tm_of me_168 rfl (Nat.le_of_ble_eq_true rfl) (
  tt_J (L1 := bk_168_1) 5 [some (.ref 97), some (.int x1), some (.int x2), some (.int x3), some (.int (0 : Int32)), some (.int (0 : Int32)), some (.int (0 : Int32)), none] [] (cw κ cs I J W) (fun _ => rfl) (tt_F [some (.ref 97), some (.int x1), some (.int x2), some (.int x3), some (.int (0 : Int32)), some (.int (0 : Int32)), some (.int (0 : Int32)), none] (And.intro rfl (And.intro rfl (And.intro rfl (And.intro rfl (And.intro rfl (And.intro rfl (And.intro rfl trivial))))))) (tl_168_1  x1 x2 x3 (0 : Int32) (0 : Int32) (0 : Int32) I _ h)))
/- 170 -/
def f_170 (x1 : Int32) (I : (Nat → Nat → Int32)) : Option Int32 :=
  (if ex_in x1 60 then (if ex_in (I 110 (x1).toNatClampNeg) 6 then (if ex_in x1 60 then (some ((I 113 ((I 110 (x1).toNatClampNeg)).toNatClampNeg) + (I 111 (x1).toNatClampNeg))) else none) else none) else none)
theorem m_170 {d : Nat} {κ : Nat × Option Nat} {cs : Nat × Nat} {J : Nat → Nat → Int64} {W : Nat} {x1 : Int32} {I : (Nat → Nat → Int32)} {r : Int32} (h : f_170 x1 I = some r) : tm d 170 [.ref 97, .int x1] (cw κ cs I J W) (.inl (some (.int r))) (cw κ cs I J W) :=
  tm_of me_170 rfl (Nat.le_of_ble_eq_true rfl) (
  tt_J (L1 := (bk_170_0.drop 5)) 4 [some (.ref 97), some (.int x1)] [.int x1, .ref 110, .ref 113] (cw κ cs I J W) (fun _ => rfl) (
  tt_Qi rfl h fun h =>
  tt_Qi rfl h fun h =>
  tt_J (L1 := (bk_170_0.drop 10)) 2 [some (.ref 97), some (.int x1)] [.int x1, .ref 111, .int (I 113 ((I 110 (x1).toNatClampNeg)).toNatClampNeg)] (cw κ cs I J W) (fun _ => rfl) (
  tt_Qi rfl h fun h =>
  tt_R 2 (fun r => (.inl (some (.int r)))) (fun r => (cw κ cs I J W)) h (fun _ => rfl))))
/- 171 -/
def lb_171_3 (s0 : Int32) : Option Int32 :=
  (some s0)
def lb_171_2 : Option Int32 :=
  (lb_171_3  (0 : Int32) )
def lb_171_7 (s0 : Int32) : Option Int32 :=
  (some s0)
def lb_171_5 : Option Int32 :=
  (lb_171_7  (1 : Int32) )
def lb_171_10 (s0 : Int32) : Option Int32 :=
  (some s0)
def lb_171_13 (s0 : Int32) : Option Int32 :=
  (some s0)
def lb_171_19 (s0 : Int32) : Option Int32 :=
  (some s0)
def f_171 (x0 : Int32) (x1 : Int32) (x2 : Int32) : Option Int32 :=
  (if x0 = (4 : Int32) then (if x1 = 0 then (lb_171_2   ) else (if x2 = 0 then (lb_171_2   ) else (lb_171_3  (1 : Int32) ))) else (if x0 = (5 : Int32) then (if x1 = 0 then (if x2 = 0 then (lb_171_7  (0 : Int32) ) else (lb_171_5   )) else (lb_171_5   )) else (if x0 = (6 : Int32) then (if x1 < x2 then (lb_171_10  (1 : Int32) ) else (lb_171_10  (0 : Int32) )) else (if x0 = (7 : Int32) then (if x1 = x2 then (lb_171_13  (1 : Int32) ) else (lb_171_13  (0 : Int32) )) else (if x0 = (8 : Int32) then (some (x1 + x2)) else (if x0 = (9 : Int32) then (some (x1 - x2)) else (if x0 = (10 : Int32) then (some (x1 * x2)) else (if x2 = 0 then (lb_171_19  (0 : Int32) ) else (if x2 = 0 then none else (lb_171_19  (x1 / x2) ))))))))))
theorem tl_171_3 {d : Nat} {κ : Nat × Option Nat} {cs : Nat × Nat} {I : Nat → Nat → Int32} {J : Nat → Nat → Int64} {W : Nat} (s0 : Int32) (r : Int32) (h : lb_171_3  s0  = some r) : tt d me_171 bk_171_3 [none, none, none] [.int s0] (cw κ cs I J W) (.inl (some (.int r))) (cw κ cs I J W) :=
  tt_R 1 (fun r => (.inl (some (.int r)))) (fun r => (cw κ cs I J W)) h (fun _ => rfl)
theorem tl_171_2 {d : Nat} {κ : Nat × Option Nat} {cs : Nat × Nat} {I : Nat → Nat → Int32} {J : Nat → Nat → Int64} {W : Nat} (r : Int32) (h : lb_171_2    = some r) : tt d me_171 bk_171_2 [none, none, none] [] (cw κ cs I J W) (.inl (some (.int r))) (cw κ cs I J W) :=
  tt_J (L1 := bk_171_3) 0 [none, none, none] [.int (0 : Int32)] (cw κ cs I J W) (fun _ => rfl) (tt_F [none, none, none] trivial (tl_171_3  (0 : Int32)  _ h))
theorem tl_171_7 {d : Nat} {κ : Nat × Option Nat} {cs : Nat × Nat} {I : Nat → Nat → Int32} {J : Nat → Nat → Int64} {W : Nat} (s0 : Int32) (r : Int32) (h : lb_171_7  s0  = some r) : tt d me_171 bk_171_7 [none, none, none] [.int s0] (cw κ cs I J W) (.inl (some (.int r))) (cw κ cs I J W) :=
  tt_R 1 (fun r => (.inl (some (.int r)))) (fun r => (cw κ cs I J W)) h (fun _ => rfl)
theorem tl_171_5 {d : Nat} {κ : Nat × Option Nat} {cs : Nat × Nat} {I : Nat → Nat → Int32} {J : Nat → Nat → Int64} {W : Nat} (r : Int32) (h : lb_171_5    = some r) : tt d me_171 bk_171_5 [none, none, none] [] (cw κ cs I J W) (.inl (some (.int r))) (cw κ cs I J W) :=
  tt_J (L1 := bk_171_7) 1 [none, none, none] [.int (1 : Int32)] (cw κ cs I J W) (fun _ => rfl) (tt_F [none, none, none] trivial (tl_171_7  (1 : Int32)  _ h))
theorem tl_171_10 {d : Nat} {κ : Nat × Option Nat} {cs : Nat × Nat} {I : Nat → Nat → Int32} {J : Nat → Nat → Int64} {W : Nat} (s0 : Int32) (r : Int32) (h : lb_171_10  s0  = some r) : tt d me_171 bk_171_10 [none, none, none] [.int s0] (cw κ cs I J W) (.inl (some (.int r))) (cw κ cs I J W) :=
  tt_R 1 (fun r => (.inl (some (.int r)))) (fun r => (cw κ cs I J W)) h (fun _ => rfl)
theorem tl_171_13 {d : Nat} {κ : Nat × Option Nat} {cs : Nat × Nat} {I : Nat → Nat → Int32} {J : Nat → Nat → Int64} {W : Nat} (s0 : Int32) (r : Int32) (h : lb_171_13  s0  = some r) : tt d me_171 bk_171_13 [none, none, none] [.int s0] (cw κ cs I J W) (.inl (some (.int r))) (cw κ cs I J W) :=
  tt_R 1 (fun r => (.inl (some (.int r)))) (fun r => (cw κ cs I J W)) h (fun _ => rfl)
theorem tl_171_19 {d : Nat} {κ : Nat × Option Nat} {cs : Nat × Nat} {I : Nat → Nat → Int32} {J : Nat → Nat → Int64} {W : Nat} (s0 : Int32) (r : Int32) (h : lb_171_19  s0  = some r) : tt d me_171 bk_171_19 [none, none, none] [.int s0] (cw κ cs I J W) (.inl (some (.int r))) (cw κ cs I J W) :=
  tt_R 1 (fun r => (.inl (some (.int r)))) (fun r => (cw κ cs I J W)) h (fun _ => rfl)
theorem m_171 {d : Nat} {κ : Nat × Option Nat} {cs : Nat × Nat} {I : Nat → Nat → Int32} {J : Nat → Nat → Int64} {W : Nat} {x0 : Int32} {x1 : Int32} {x2 : Int32} {r : Int32} (h : f_171 x0 x1 x2  = some r) : tm d 171 [.int x0, .int x1, .int x2] (cw κ cs I J W) (.inl (some (.int r))) (cw κ cs I J W) :=
  tm_of me_171 rfl (Nat.le_of_ble_eq_true rfl) (
  tt_J (L1 := (bk_171_0.drop 1)) 0 [some (.int x0), some (.int x1), some (.int x2)] [.int x0] (cw κ cs I J W) (fun _ => rfl) (
  tt_T (L1 := bk_171_1) (4 : Int32) h (fun _ => rfl) (fun h =>
  tt_I (L1 := bk_171_2) (L2 := (bk_171_1.drop 2)) 2 [some (.int x0), some (.int x1), some (.int x2)] [] (cw κ cs I J W) h (fun _ => rfl) (fun h =>
  tt_F [none, none, none] trivial (tl_171_2    _ h)) (fun h =>
  tt_I (L1 := bk_171_2) (L2 := (bk_171_1.drop 4)) 2 [some (.int x0), some (.int x1), some (.int x2)] [] (cw κ cs I J W) h (fun _ => rfl) (fun h =>
  tt_F [none, none, none] trivial (tl_171_2    _ h)) (fun h =>
  tt_J (L1 := bk_171_3) 1 [some (.int x0), some (.int x1), some (.int x2)] [.int (1 : Int32)] (cw κ cs I J W) (fun _ => rfl) (tt_F [none, none, none] trivial (tl_171_3  (1 : Int32)  _ h))))) (fun e0 h =>
  tt_T (L1 := bk_171_4) (5 : Int32) h (fun _ => rfl) (fun h =>
  tt_I (L1 := (bk_171_4.drop 2)) (L2 := bk_171_5) 2 [some (.int x0), some (.int x1), some (.int x2)] [] (cw κ cs I J W) h (fun _ => rfl) (fun h =>
  tt_I (L1 := bk_171_6) (L2 := bk_171_5) 2 [some (.int x0), some (.int x1), some (.int x2)] [] (cw κ cs I J W) h (fun _ => rfl) (fun h =>
  tt_J (L1 := bk_171_7) 0 [some (.int x0), some (.int x1), some (.int x2)] [.int (0 : Int32)] (cw κ cs I J W) (fun _ => rfl) (tt_F [none, none, none] trivial (tl_171_7  (0 : Int32)  _ h))) (fun h =>
  tt_F [none, none, none] trivial (tl_171_5    _ h))) (fun h =>
  tt_F [none, none, none] trivial (tl_171_5    _ h))) (fun e1 h =>
  tt_T (L1 := bk_171_8) (6 : Int32) h (fun _ => rfl) (fun h =>
  tt_I (L1 := (bk_171_8.drop 3)) (L2 := bk_171_9) 3 [some (.int x0), some (.int x1), some (.int x2)] [] (cw κ cs I J W) h (fun _ => rfl) (fun h =>
  tt_J (L1 := bk_171_10) 1 [some (.int x0), some (.int x1), some (.int x2)] [.int (1 : Int32)] (cw κ cs I J W) (fun _ => rfl) (tt_F [none, none, none] trivial (tl_171_10  (1 : Int32)  _ h))) (fun h =>
  tt_J (L1 := bk_171_10) 0 [some (.int x0), some (.int x1), some (.int x2)] [.int (0 : Int32)] (cw κ cs I J W) (fun _ => rfl) (tt_F [none, none, none] trivial (tl_171_10  (0 : Int32)  _ h)))) (fun e2 h =>
  tt_T (L1 := bk_171_11) (7 : Int32) h (fun _ => rfl) (fun h =>
  tt_I (L1 := (bk_171_11.drop 3)) (L2 := bk_171_12) 3 [some (.int x0), some (.int x1), some (.int x2)] [] (cw κ cs I J W) h (fun _ => rfl) (fun h =>
  tt_J (L1 := bk_171_13) 1 [some (.int x0), some (.int x1), some (.int x2)] [.int (1 : Int32)] (cw κ cs I J W) (fun _ => rfl) (tt_F [none, none, none] trivial (tl_171_13  (1 : Int32)  _ h))) (fun h =>
  tt_J (L1 := bk_171_13) 0 [some (.int x0), some (.int x1), some (.int x2)] [.int (0 : Int32)] (cw κ cs I J W) (fun _ => rfl) (tt_F [none, none, none] trivial (tl_171_13  (0 : Int32)  _ h)))) (fun e3 h =>
  tt_T (L1 := bk_171_14) (8 : Int32) h (fun _ => rfl) (fun h =>
  tt_R 4 (fun r => (.inl (some (.int r)))) (fun r => (cw κ cs I J W)) h (fun _ => rfl)) (fun e4 h =>
  tt_T (L1 := bk_171_15) (9 : Int32) h (fun _ => rfl) (fun h =>
  tt_R 4 (fun r => (.inl (some (.int r)))) (fun r => (cw κ cs I J W)) h (fun _ => rfl)) (fun e5 h =>
  tt_T (L1 := bk_171_16) (10 : Int32) h (fun _ => rfl) (fun h =>
  tt_R 4 (fun r => (.inl (some (.int r)))) (fun r => (cw κ cs I J W)) h (fun _ => rfl)) (fun e6 h =>
  tt_T0 (by have e0 := nev e0 (show ((4 : Int32)).toInt = 4 from rfl); have e1 := nev e1 (show ((5 : Int32)).toInt = 5 from rfl); have e2 := nev e2 (show ((6 : Int32)).toInt = 6 from rfl); have e3 := nev e3 (show ((7 : Int32)).toInt = 7 from rfl); have e4 := nev e4 (show ((8 : Int32)).toInt = 8 from rfl); have e5 := nev e5 (show ((9 : Int32)).toInt = 9 from rfl); have e6 := nev e6 (show ((10 : Int32)).toInt = 10 from rfl); omega) (
  tt_I (L1 := (bk_171_17.drop 2)) (L2 := bk_171_18) 2 [some (.int x0), some (.int x1), some (.int x2)] [] (cw κ cs I J W) h (fun _ => rfl) (fun h =>
  tt_J (L1 := bk_171_19) 1 [some (.int x0), some (.int x1), some (.int x2)] [.int (0 : Int32)] (cw κ cs I J W) (fun _ => rfl) (tt_F [none, none, none] trivial (tl_171_19  (0 : Int32)  _ h))) (fun h =>
  tt_J (L1 := (bk_171_18.drop 2)) 1 [some (.int x0), some (.int x1), some (.int x2)] [.int x2, .int x1] (cw κ cs I J W) (fun _ => rfl) (
  tt_Di h fun h =>
  tt_F [none, none, none] trivial (tl_171_19  (x1 / x2)  _ h)))))))))))))
/- 172 -/
def lb_172_18 (s0 : Int32) (I : (Nat → Nat → Int32)) : Option (Int32 × (Nat → Nat → Int32)) :=
  (some (s0, I))
def lb_172_15 (c2 : Int32 → Int32 → Int32 → Int32 → (Nat → Nat → Int32) → Option (Int32 × (Nat → Nat → Int32))) (x1 : Int32) (x2 : Int32) (x3 : Int32) (x4 : Int32) (I : (Nat → Nat → Int32)) : Option (Int32 × (Nat → Nat → Int32)) :=
  (c2 x1 x2 x3 x4 I)
def lb_172_10 (c2 : Int32 → Int32 → Int32 → Int32 → (Nat → Nat → Int32) → Option (Int32 × (Nat → Nat → Int32))) (x1 : Int32) (x2 : Int32) (x3 : Int32) (x4 : Int32) (s1 : Int32) (s2 : Int32) (I : (Nat → Nat → Int32)) : Option (Int32 × (Nat → Nat → Int32)) :=
  (if ex_in s1 650 then let I1 := up I 115 (s1).toNatClampNeg s2
  (lb_172_15 c2 x1 x2 (x3 + (1 : Int32)) (x4 + (1 : Int32)) I1) else none)
def lb_172_3 (c2 : Int32 → Int32 → Int32 → Int32 → (Nat → Nat → Int32) → Option (Int32 × (Nat → Nat → Int32))) (x1 : Int32) (x2 : Int32) (x3 : Int32) (x4 : Int32) (x5 : Int32) (I : (Nat → Nat → Int32)) : Option (Int32 × (Nat → Nat → Int32)) :=
  (if ex_in x4 1300 then (if x5 = (1 : Int32) then (lb_172_10 c2 x1 x2 x3 x4 x3 (I 101 (x4).toNatClampNeg) I) else (if (I 101 (x4).toNatClampNeg) = 0 then (lb_172_10 c2 x1 x2 x3 x4 x3 x1 I) else (if (I 101 (x4).toNatClampNeg) = (1 : Int32) then (lb_172_10 c2 x1 x2 x3 x4 x3 (I 97 5) I) else (if (I 101 (x4).toNatClampNeg) = (2 : Int32) then (lb_172_10 c2 x1 x2 x3 x4 x3 (I 97 2) I) else (if (I 101 (x4).toNatClampNeg) = (3 : Int32) then (lb_172_10 c2 x1 x2 x3 x4 x3 (I 97 1) I) else (if (I 101 (x4).toNatClampNeg) = (4 : Int32) then (lb_172_10 c2 x1 x2 x3 x4 x3 x2 I) else (if ex_in x2 6 then (lb_172_10 c2 x1 x2 x3 x4 x3 (I 112 (x2).toNatClampNeg) I) else none))))))) else none)
def lb_172_13 (c2 : Int32 → Int32 → Int32 → Int32 → (Nat → Nat → Int32) → Option (Int32 × (Nat → Nat → Int32))) (x1 : Int32) (x2 : Int32) (x3 : Int32) (x4 : Int32) (s1 : Int32) (s2 : Int32) (I : (Nat → Nat → Int32)) : Option (Int32 × (Nat → Nat → Int32)) :=
  (if ex_in s1 650 then let I4 := up I 115 (s1).toNatClampNeg s2
  (lb_172_15 c2 x1 x2 x3 x4 I4) else none)
def bd_172_2 (c2 : Int32 → Int32 → Int32 → Int32 → (Nat → Nat → Int32) → Option (Int32 × (Nat → Nat → Int32))) (x1 : Int32) (x2 : Int32) (x3 : Int32) (x4 : Int32) (I : (Nat → Nat → Int32)) : Option (Int32 × (Nat → Nat → Int32)) :=
  (if ex_in x4 1300 then (if (I 101 (x4).toNatClampNeg) = 0 then (if ex_in (0 : Int32) 650 then (if (I 97 2) = 0 then none else (if ((I 115 ((0 : Int32)).toNatClampNeg) - (I 115 ((0 : Int32)).toNatClampNeg) / (I 97 2) * (I 97 2)) < 0 then (lb_172_18  (((I 115 ((0 : Int32)).toNatClampNeg) - (I 115 ((0 : Int32)).toNatClampNeg) / (I 97 2) * (I 97 2)) + (I 97 2)) I) else (lb_172_18  ((I 115 ((0 : Int32)).toNatClampNeg) - (I 115 ((0 : Int32)).toNatClampNeg) / (I 97 2) * (I 97 2)) I))) else none) else (if ex_in x4 1300 then (if (I 101 (x4).toNatClampNeg) = (1 : Int32) then (lb_172_3 c2 x1 x2 x3 (x4 + (1 : Int32)) (I 101 (x4).toNatClampNeg) I) else (if (I 101 (x4).toNatClampNeg) = (2 : Int32) then (lb_172_3 c2 x1 x2 x3 (x4 + (1 : Int32)) (I 101 (x4).toNatClampNeg) I) else (if (I 101 (x4).toNatClampNeg) = (3 : Int32) then (if ex_in (x3 - (1 : Int32)) 650 then (if (I 115 ((x3 - (1 : Int32))).toNatClampNeg) = 0 then (lb_172_13 c2 x1 x2 x3 (x4 + (1 : Int32)) (x3 - (1 : Int32)) (1 : Int32) I) else (lb_172_13 c2 x1 x2 x3 (x4 + (1 : Int32)) (x3 - (1 : Int32)) (0 : Int32) I)) else none) else (if ex_in ((x3 + ((-1) : Int32)) - (1 : Int32)) 650 then (if ex_in (x3 + ((-1) : Int32)) 650 then ((f_171 (I 101 (x4).toNatClampNeg) (I 115 (((x3 + ((-1) : Int32)) - (1 : Int32))).toNatClampNeg) (I 115 ((x3 + ((-1) : Int32))).toNatClampNeg) ).bind fun q2 => (if ex_in ((x3 + ((-1) : Int32)) - (1 : Int32)) 650 then let I3 := up I 115 (((x3 + ((-1) : Int32)) - (1 : Int32))).toNatClampNeg q2
  (lb_172_15 c2 x1 x2 (x3 + ((-1) : Int32)) (x4 + (1 : Int32)) I3) else none)) else none) else none)))) else none)) else none)
def lb_172_2 : Int32 → Int32 → Int32 → Int32 → (Nat → Nat → Int32) → Option (Int32 × (Nat → Nat → Int32)) := fx (fun _ _ _ _ _ => none) (bd_172_2 ) FU
def f_172 (x1 : Int32) (x2 : Int32) (I : (Nat → Nat → Int32)) : Option (Int32 × (Nat → Nat → Int32)) :=
  (if (I 97 3) = 0 then (if (I 97 2) = 0 then none else (some ((((I 97 2) / (2 : Int32)) - ((I 97 2) / (2 : Int32)) / (I 97 2) * (I 97 2)), I))) else (if ex_in x1 8 then (lb_172_2  x1 x2 (0 : Int32) (I 100 (x1).toNatClampNeg) I) else none))
theorem tl_172_18 {d : Nat} {κ : Nat × Option Nat} {cs : Nat × Nat} {J : Nat → Nat → Int64} {W : Nat} (s0 : Int32) (I : (Nat → Nat → Int32)) (r : (Int32 × (Nat → Nat → Int32))) (h : lb_172_18  s0 I = some r) : tt (d + 1) me_172 bk_172_18 [none, none, none, none, none, none, none] [.int s0] (cw κ cs I J W) (.inl (some (.int r.1))) (cw κ cs r.2 J W) :=
  tt_R 1 (fun r => (.inl (some (.int r.1)))) (fun r => (cw κ cs r.2 J W)) h (fun _ => rfl)
theorem tl_172_15 {d : Nat} {κ : Nat × Option Nat} {cs : Nat × Nat} {J : Nat → Nat → Int64} {W : Nat} (c2 : Int32 → Int32 → Int32 → Int32 → (Nat → Nat → Int32) → Option (Int32 × (Nat → Nat → Int32))) (k2 : ∀ (x1 : Int32) (x2 : Int32) (x3 : Int32) (x4 : Int32) (I : (Nat → Nat → Int32)) (r : (Int32 × (Nat → Nat → Int32))), c2 x1 x2 x3 x4 I = some r → tt (d + 1) me_172 bk_172_2 [some (.ref 97), some (.int x1), some (.int x2), some (.int x3), some (.int x4), none, none] [] (cw κ cs I J W) (.inl (some (.int r.1))) (cw κ cs r.2 J W)) (x1 : Int32) (x2 : Int32) (x3 : Int32) (x4 : Int32) (I : (Nat → Nat → Int32)) (r : (Int32 × (Nat → Nat → Int32))) (h : lb_172_15 c2 x1 x2 x3 x4 I = some r) : tt (d + 1) me_172 bk_172_15 [some (.ref 97), some (.int x1), some (.int x2), some (.int x3), some (.int x4), none, none] [] (cw κ cs I J W) (.inl (some (.int r.1))) (cw κ cs r.2 J W) :=
  tt_J (L1 := bk_172_2) 0 [some (.ref 97), some (.int x1), some (.int x2), some (.int x3), some (.int x4), none, none] [] (cw κ cs I J W) (fun _ => rfl) (tt_F [some (.ref 97), some (.int x1), some (.int x2), some (.int x3), some (.int x4), none, none] (And.intro rfl (And.intro rfl (And.intro rfl (And.intro rfl (And.intro rfl trivial))))) (k2 x1 x2 x3 x4 I _ h))
theorem tl_172_10 {d : Nat} {κ : Nat × Option Nat} {cs : Nat × Nat} {J : Nat → Nat → Int64} {W : Nat} (c2 : Int32 → Int32 → Int32 → Int32 → (Nat → Nat → Int32) → Option (Int32 × (Nat → Nat → Int32))) (k2 : ∀ (x1 : Int32) (x2 : Int32) (x3 : Int32) (x4 : Int32) (I : (Nat → Nat → Int32)) (r : (Int32 × (Nat → Nat → Int32))), c2 x1 x2 x3 x4 I = some r → tt (d + 1) me_172 bk_172_2 [some (.ref 97), some (.int x1), some (.int x2), some (.int x3), some (.int x4), none, none] [] (cw κ cs I J W) (.inl (some (.int r.1))) (cw κ cs r.2 J W)) (x1 : Int32) (x2 : Int32) (x3 : Int32) (x4 : Int32) (s1 : Int32) (s2 : Int32) (I : (Nat → Nat → Int32)) (r : (Int32 × (Nat → Nat → Int32))) (h : lb_172_10 c2 x1 x2 x3 x4 s1 s2 I = some r) : tt (d + 1) me_172 bk_172_10 [some (.ref 97), some (.int x1), some (.int x2), some (.int x3), some (.int x4), none, none] [.int s2, .int s1, .ref 115] (cw κ cs I J W) (.inl (some (.int r.1))) (cw κ cs r.2 J W) :=
  let I1 := up I 115 (s1).toNatClampNeg s2
  tt_Wi rfl (Nat.le_of_ble_eq_true rfl) h fun h =>
  tt_J (L1 := bk_172_15) 2 [some (.ref 97), some (.int x1), some (.int x2), some (.int (x3 + (1 : Int32))), some (.int (x4 + (1 : Int32))), none, none] [] (cw κ cs I1 J W) (fun _ => rfl) (tt_F [some (.ref 97), some (.int x1), some (.int x2), some (.int (x3 + (1 : Int32))), some (.int (x4 + (1 : Int32))), none, none] (And.intro rfl (And.intro rfl (And.intro rfl (And.intro rfl (And.intro rfl trivial))))) (tl_172_15 c2 k2 x1 x2 (x3 + (1 : Int32)) (x4 + (1 : Int32)) I1 _ h))
theorem tl_172_3 {d : Nat} {κ : Nat × Option Nat} {cs : Nat × Nat} {J : Nat → Nat → Int64} {W : Nat} (c2 : Int32 → Int32 → Int32 → Int32 → (Nat → Nat → Int32) → Option (Int32 × (Nat → Nat → Int32))) (k2 : ∀ (x1 : Int32) (x2 : Int32) (x3 : Int32) (x4 : Int32) (I : (Nat → Nat → Int32)) (r : (Int32 × (Nat → Nat → Int32))), c2 x1 x2 x3 x4 I = some r → tt (d + 1) me_172 bk_172_2 [some (.ref 97), some (.int x1), some (.int x2), some (.int x3), some (.int x4), none, none] [] (cw κ cs I J W) (.inl (some (.int r.1))) (cw κ cs r.2 J W)) (x1 : Int32) (x2 : Int32) (x3 : Int32) (x4 : Int32) (x5 : Int32) (I : (Nat → Nat → Int32)) (r : (Int32 × (Nat → Nat → Int32))) (h : lb_172_3 c2 x1 x2 x3 x4 x5 I = some r) : tt (d + 1) me_172 bk_172_3 [some (.ref 97), some (.int x1), some (.int x2), some (.int x3), some (.int x4), some (.int x5), none] [] (cw κ cs I J W) (.inl (some (.int r.1))) (cw κ cs r.2 J W) :=
  tt_J (L1 := (bk_172_3.drop 3)) 2 [some (.ref 97), some (.int x1), some (.int x2), some (.int x3), some (.int x4), some (.int x5), none] [.int x4, .ref 101] (cw κ cs I J W) (fun _ => rfl) (
  tt_Qi rfl h fun h =>
  tt_I (L1 := (bk_172_3.drop 11)) (L2 := bk_172_4) 7 [some (.ref 97), some (.int x1), some (.int x2), some (.int x3), some (.int x4), some (.int x5), some (.int (I 101 (x4).toNatClampNeg))] [.int x3, .ref 115] (cw κ cs I J W) h (fun _ => rfl) (fun h =>
  tt_J (L1 := bk_172_10) 1 [some (.ref 97), some (.int x1), some (.int x2), some (.int x3), some (.int x4), some (.int x5), some (.int (I 101 (x4).toNatClampNeg))] [.int (I 101 (x4).toNatClampNeg), .int x3, .ref 115] (cw κ cs I J W) (fun _ => rfl) (tt_F [some (.ref 97), some (.int x1), some (.int x2), some (.int x3), some (.int x4), none, none] (And.intro rfl (And.intro rfl (And.intro rfl (And.intro rfl (And.intro rfl trivial))))) (tl_172_10 c2 k2 x1 x2 x3 x4 x3 (I 101 (x4).toNatClampNeg) I _ h))) (fun h =>
  tt_I (L1 := (bk_172_4.drop 2)) (L2 := bk_172_5) 2 [some (.ref 97), some (.int x1), some (.int x2), some (.int x3), some (.int x4), some (.int x5), some (.int (I 101 (x4).toNatClampNeg))] [.int x3, .ref 115] (cw κ cs I J W) h (fun _ => rfl) (fun h =>
  tt_J (L1 := bk_172_10) 1 [some (.ref 97), some (.int x1), some (.int x2), some (.int x3), some (.int x4), some (.int x5), some (.int (I 101 (x4).toNatClampNeg))] [.int x1, .int x3, .ref 115] (cw κ cs I J W) (fun _ => rfl) (tt_F [some (.ref 97), some (.int x1), some (.int x2), some (.int x3), some (.int x4), none, none] (And.intro rfl (And.intro rfl (And.intro rfl (And.intro rfl (And.intro rfl trivial))))) (tl_172_10 c2 k2 x1 x2 x3 x4 x3 x1 I _ h))) (fun h =>
  tt_I (L1 := (bk_172_5.drop 3)) (L2 := bk_172_6) 3 [some (.ref 97), some (.int x1), some (.int x2), some (.int x3), some (.int x4), some (.int x5), some (.int (I 101 (x4).toNatClampNeg))] [.int x3, .ref 115] (cw κ cs I J W) h (fun _ => rfl) (fun h =>
  tt_J (L1 := bk_172_10) 2 [some (.ref 97), some (.int x1), some (.int x2), some (.int x3), some (.int x4), some (.int x5), some (.int (I 101 (x4).toNatClampNeg))] [.int (I 97 5), .int x3, .ref 115] (cw κ cs I J W) (fun _ => rfl) (tt_F [some (.ref 97), some (.int x1), some (.int x2), some (.int x3), some (.int x4), none, none] (And.intro rfl (And.intro rfl (And.intro rfl (And.intro rfl (And.intro rfl trivial))))) (tl_172_10 c2 k2 x1 x2 x3 x4 x3 (I 97 5) I _ h))) (fun h =>
  tt_I (L1 := (bk_172_6.drop 3)) (L2 := bk_172_7) 3 [some (.ref 97), some (.int x1), some (.int x2), some (.int x3), some (.int x4), some (.int x5), some (.int (I 101 (x4).toNatClampNeg))] [.int x3, .ref 115] (cw κ cs I J W) h (fun _ => rfl) (fun h =>
  tt_J (L1 := bk_172_10) 2 [some (.ref 97), some (.int x1), some (.int x2), some (.int x3), some (.int x4), some (.int x5), some (.int (I 101 (x4).toNatClampNeg))] [.int (I 97 2), .int x3, .ref 115] (cw κ cs I J W) (fun _ => rfl) (tt_F [some (.ref 97), some (.int x1), some (.int x2), some (.int x3), some (.int x4), none, none] (And.intro rfl (And.intro rfl (And.intro rfl (And.intro rfl (And.intro rfl trivial))))) (tl_172_10 c2 k2 x1 x2 x3 x4 x3 (I 97 2) I _ h))) (fun h =>
  tt_I (L1 := (bk_172_7.drop 3)) (L2 := bk_172_8) 3 [some (.ref 97), some (.int x1), some (.int x2), some (.int x3), some (.int x4), some (.int x5), some (.int (I 101 (x4).toNatClampNeg))] [.int x3, .ref 115] (cw κ cs I J W) h (fun _ => rfl) (fun h =>
  tt_J (L1 := bk_172_10) 2 [some (.ref 97), some (.int x1), some (.int x2), some (.int x3), some (.int x4), some (.int x5), some (.int (I 101 (x4).toNatClampNeg))] [.int (I 97 1), .int x3, .ref 115] (cw κ cs I J W) (fun _ => rfl) (tt_F [some (.ref 97), some (.int x1), some (.int x2), some (.int x3), some (.int x4), none, none] (And.intro rfl (And.intro rfl (And.intro rfl (And.intro rfl (And.intro rfl trivial))))) (tl_172_10 c2 k2 x1 x2 x3 x4 x3 (I 97 1) I _ h))) (fun h =>
  tt_I (L1 := (bk_172_8.drop 3)) (L2 := bk_172_9) 3 [some (.ref 97), some (.int x1), some (.int x2), some (.int x3), some (.int x4), some (.int x5), some (.int (I 101 (x4).toNatClampNeg))] [.int x3, .ref 115] (cw κ cs I J W) h (fun _ => rfl) (fun h =>
  tt_J (L1 := bk_172_10) 1 [some (.ref 97), some (.int x1), some (.int x2), some (.int x3), some (.int x4), some (.int x5), some (.int (I 101 (x4).toNatClampNeg))] [.int x2, .int x3, .ref 115] (cw κ cs I J W) (fun _ => rfl) (tt_F [some (.ref 97), some (.int x1), some (.int x2), some (.int x3), some (.int x4), none, none] (And.intro rfl (And.intro rfl (And.intro rfl (And.intro rfl (And.intro rfl trivial))))) (tl_172_10 c2 k2 x1 x2 x3 x4 x3 x2 I _ h))) (fun h =>
  tt_J (L1 := (bk_172_9.drop 3)) 2 [some (.ref 97), some (.int x1), some (.int x2), some (.int x3), some (.int x4), some (.int x5), some (.int (I 101 (x4).toNatClampNeg))] [.int x2, .ref 112, .int x3, .ref 115] (cw κ cs I J W) (fun _ => rfl) (
  tt_Qi rfl h fun h =>
  tt_F [some (.ref 97), some (.int x1), some (.int x2), some (.int x3), some (.int x4), none, none] (And.intro rfl (And.intro rfl (And.intro rfl (And.intro rfl (And.intro rfl trivial))))) (tl_172_10 c2 k2 x1 x2 x3 x4 x3 (I 112 (x2).toNatClampNeg) I _ h)))))))))
theorem tl_172_13 {d : Nat} {κ : Nat × Option Nat} {cs : Nat × Nat} {J : Nat → Nat → Int64} {W : Nat} (c2 : Int32 → Int32 → Int32 → Int32 → (Nat → Nat → Int32) → Option (Int32 × (Nat → Nat → Int32))) (k2 : ∀ (x1 : Int32) (x2 : Int32) (x3 : Int32) (x4 : Int32) (I : (Nat → Nat → Int32)) (r : (Int32 × (Nat → Nat → Int32))), c2 x1 x2 x3 x4 I = some r → tt (d + 1) me_172 bk_172_2 [some (.ref 97), some (.int x1), some (.int x2), some (.int x3), some (.int x4), none, none] [] (cw κ cs I J W) (.inl (some (.int r.1))) (cw κ cs r.2 J W)) (x1 : Int32) (x2 : Int32) (x3 : Int32) (x4 : Int32) (s1 : Int32) (s2 : Int32) (I : (Nat → Nat → Int32)) (r : (Int32 × (Nat → Nat → Int32))) (h : lb_172_13 c2 x1 x2 x3 x4 s1 s2 I = some r) : tt (d + 1) me_172 bk_172_13 [some (.ref 97), some (.int x1), some (.int x2), some (.int x3), some (.int x4), none, none] [.int s2, .int s1, .ref 115] (cw κ cs I J W) (.inl (some (.int r.1))) (cw κ cs r.2 J W) :=
  let I4 := up I 115 (s1).toNatClampNeg s2
  tt_Wi rfl (Nat.le_of_ble_eq_true rfl) h fun h =>
  tt_J (L1 := bk_172_15) 0 [some (.ref 97), some (.int x1), some (.int x2), some (.int x3), some (.int x4), none, none] [] (cw κ cs I4 J W) (fun _ => rfl) (tt_F [some (.ref 97), some (.int x1), some (.int x2), some (.int x3), some (.int x4), none, none] (And.intro rfl (And.intro rfl (And.intro rfl (And.intro rfl (And.intro rfl trivial))))) (tl_172_15 c2 k2 x1 x2 x3 x4 I4 _ h))
theorem tb_172_2 {d : Nat} {κ : Nat × Option Nat} {cs : Nat × Nat} {J : Nat → Nat → Int64} {W : Nat} (c2 : Int32 → Int32 → Int32 → Int32 → (Nat → Nat → Int32) → Option (Int32 × (Nat → Nat → Int32))) (k2 : ∀ (x1 : Int32) (x2 : Int32) (x3 : Int32) (x4 : Int32) (I : (Nat → Nat → Int32)) (r : (Int32 × (Nat → Nat → Int32))), c2 x1 x2 x3 x4 I = some r → tt (d + 1) me_172 bk_172_2 [some (.ref 97), some (.int x1), some (.int x2), some (.int x3), some (.int x4), none, none] [] (cw κ cs I J W) (.inl (some (.int r.1))) (cw κ cs r.2 J W)) (x1 : Int32) (x2 : Int32) (x3 : Int32) (x4 : Int32) (I : (Nat → Nat → Int32)) (r : (Int32 × (Nat → Nat → Int32))) (h : bd_172_2  c2 x1 x2 x3 x4 I = some r) : tt (d + 1) me_172 bk_172_2 [some (.ref 97), some (.int x1), some (.int x2), some (.int x3), some (.int x4), none, none] [] (cw κ cs I J W) (.inl (some (.int r.1))) (cw κ cs r.2 J W) :=
  tt_J (L1 := (bk_172_2.drop 3)) 2 [some (.ref 97), some (.int x1), some (.int x2), some (.int x3), some (.int x4), none, none] [.int x4, .ref 101] (cw κ cs I J W) (fun _ => rfl) (
  tt_Qi rfl h fun h =>
  tt_I (L1 := bk_172_16) (L2 := (bk_172_2.drop 5)) 1 [some (.ref 97), some (.int x1), some (.int x2), some (.int x3), some (.int x4), none, none] [] (cw κ cs I J W) h (fun _ => rfl) (fun h =>
  tt_J (L1 := (bk_172_16.drop 3)) 2 [some (.ref 97), some (.int x1), some (.int x2), some (.int x3), some (.int x4), none, none] [.int (0 : Int32), .ref 115] (cw κ cs I J W) (fun _ => rfl) (
  tt_Qi rfl h fun h =>
  tt_J (L1 := (bk_172_16.drop 6)) 1 [some (.ref 97), some (.int x1), some (.int x2), some (.int x3), some (.int x4), none, none] [.int (I 97 2), .int (I 115 ((0 : Int32)).toNatClampNeg)] (cw κ cs I J W) (fun _ => rfl) (
  tt_Dr h fun h =>
  tt_I (L1 := (bk_172_16.drop 10)) (L2 := bk_172_17) 3 [some (.ref 97), some (.int x1), some (.int x2), some (.int x3), some (.int x4), some (.int ((I 115 ((0 : Int32)).toNatClampNeg) - (I 115 ((0 : Int32)).toNatClampNeg) / (I 97 2) * (I 97 2))), none] [] (cw κ cs I J W) h (fun _ => rfl) (fun h =>
  tt_J (L1 := bk_172_18) 4 [some (.ref 97), some (.int x1), some (.int x2), some (.int x3), some (.int x4), some (.int ((I 115 ((0 : Int32)).toNatClampNeg) - (I 115 ((0 : Int32)).toNatClampNeg) / (I 97 2) * (I 97 2))), none] [.int (((I 115 ((0 : Int32)).toNatClampNeg) - (I 115 ((0 : Int32)).toNatClampNeg) / (I 97 2) * (I 97 2)) + (I 97 2))] (cw κ cs I J W) (fun _ => rfl) (tt_F [none, none, none, none, none, none, none] trivial (tl_172_18  (((I 115 ((0 : Int32)).toNatClampNeg) - (I 115 ((0 : Int32)).toNatClampNeg) / (I 97 2) * (I 97 2)) + (I 97 2)) I _ h))) (fun h =>
  tt_J (L1 := bk_172_18) 0 [some (.ref 97), some (.int x1), some (.int x2), some (.int x3), some (.int x4), some (.int ((I 115 ((0 : Int32)).toNatClampNeg) - (I 115 ((0 : Int32)).toNatClampNeg) / (I 97 2) * (I 97 2))), none] [.int ((I 115 ((0 : Int32)).toNatClampNeg) - (I 115 ((0 : Int32)).toNatClampNeg) / (I 97 2) * (I 97 2))] (cw κ cs I J W) (fun _ => rfl) (tt_F [none, none, none, none, none, none, none] trivial (tl_172_18  ((I 115 ((0 : Int32)).toNatClampNeg) - (I 115 ((0 : Int32)).toNatClampNeg) / (I 97 2) * (I 97 2)) I _ h)))))) (fun h =>
  tt_J (L1 := (bk_172_2.drop 8)) 2 [some (.ref 97), some (.int x1), some (.int x2), some (.int x3), some (.int x4), none, none] [.int x4, .ref 101] (cw κ cs I J W) (fun _ => rfl) (
  tt_Qi rfl h fun h =>
  tt_I (L1 := bk_172_3) (L2 := (bk_172_2.drop 14)) 5 [some (.ref 97), some (.int x1), some (.int x2), some (.int x3), some (.int (x4 + (1 : Int32))), some (.int (I 101 (x4).toNatClampNeg)), none] [] (cw κ cs I J W) h (fun _ => rfl) (fun h =>
  tt_F [some (.ref 97), some (.int x1), some (.int x2), some (.int x3), some (.int (x4 + (1 : Int32))), some (.int (I 101 (x4).toNatClampNeg)), none] (And.intro rfl (And.intro rfl (And.intro rfl (And.intro rfl (And.intro rfl (And.intro rfl trivial)))))) (tl_172_3 c2 k2 x1 x2 x3 (x4 + (1 : Int32)) (I 101 (x4).toNatClampNeg) I _ h)) (fun h =>
  tt_I (L1 := bk_172_3) (L2 := bk_172_11) 3 [some (.ref 97), some (.int x1), some (.int x2), some (.int x3), some (.int (x4 + (1 : Int32))), some (.int (I 101 (x4).toNatClampNeg)), none] [] (cw κ cs I J W) h (fun _ => rfl) (fun h =>
  tt_F [some (.ref 97), some (.int x1), some (.int x2), some (.int x3), some (.int (x4 + (1 : Int32))), some (.int (I 101 (x4).toNatClampNeg)), none] (And.intro rfl (And.intro rfl (And.intro rfl (And.intro rfl (And.intro rfl (And.intro rfl trivial)))))) (tl_172_3 c2 k2 x1 x2 x3 (x4 + (1 : Int32)) (I 101 (x4).toNatClampNeg) I _ h)) (fun h =>
  tt_I (L1 := (bk_172_11.drop 3)) (L2 := bk_172_14) 3 [some (.ref 97), some (.int x1), some (.int x2), some (.int x3), some (.int (x4 + (1 : Int32))), some (.int (I 101 (x4).toNatClampNeg)), none] [] (cw κ cs I J W) h (fun _ => rfl) (fun h =>
  tt_J (L1 := (bk_172_11.drop 13)) 9 [some (.ref 97), some (.int x1), some (.int x2), some (.int x3), some (.int (x4 + (1 : Int32))), some (.int (I 101 (x4).toNatClampNeg)), none] [.int (x3 - (1 : Int32)), .ref 115, .int (x3 - (1 : Int32)), .ref 115] (cw κ cs I J W) (fun _ => rfl) (
  tt_Qi rfl h fun h =>
  tt_I (L1 := (bk_172_11.drop 15)) (L2 := bk_172_12) 1 [some (.ref 97), some (.int x1), some (.int x2), some (.int x3), some (.int (x4 + (1 : Int32))), some (.int (I 101 (x4).toNatClampNeg)), none] [.int (x3 - (1 : Int32)), .ref 115] (cw κ cs I J W) h (fun _ => rfl) (fun h =>
  tt_J (L1 := bk_172_13) 1 [some (.ref 97), some (.int x1), some (.int x2), some (.int x3), some (.int (x4 + (1 : Int32))), some (.int (I 101 (x4).toNatClampNeg)), none] [.int (1 : Int32), .int (x3 - (1 : Int32)), .ref 115] (cw κ cs I J W) (fun _ => rfl) (tt_F [some (.ref 97), some (.int x1), some (.int x2), some (.int x3), some (.int (x4 + (1 : Int32))), none, none] (And.intro rfl (And.intro rfl (And.intro rfl (And.intro rfl (And.intro rfl trivial))))) (tl_172_13 c2 k2 x1 x2 x3 (x4 + (1 : Int32)) (x3 - (1 : Int32)) (1 : Int32) I _ h))) (fun h =>
  tt_J (L1 := bk_172_13) 0 [some (.ref 97), some (.int x1), some (.int x2), some (.int x3), some (.int (x4 + (1 : Int32))), some (.int (I 101 (x4).toNatClampNeg)), none] [.int (0 : Int32), .int (x3 - (1 : Int32)), .ref 115] (cw κ cs I J W) (fun _ => rfl) (tt_F [some (.ref 97), some (.int x1), some (.int x2), some (.int x3), some (.int (x4 + (1 : Int32))), none, none] (And.intro rfl (And.intro rfl (And.intro rfl (And.intro rfl (And.intro rfl trivial))))) (tl_172_13 c2 k2 x1 x2 x3 (x4 + (1 : Int32)) (x3 - (1 : Int32)) (0 : Int32) I _ h))))) (fun h =>
  tt_J (L1 := (bk_172_14.drop 12)) 11 [some (.ref 97), some (.int x1), some (.int x2), some (.int (x3 + ((-1) : Int32))), some (.int (x4 + (1 : Int32))), some (.int (I 101 (x4).toNatClampNeg)), none] [.int ((x3 + ((-1) : Int32)) - (1 : Int32)), .ref 115, .int (I 101 (x4).toNatClampNeg), .int ((x3 + ((-1) : Int32)) - (1 : Int32)), .ref 115] (cw κ cs I J W) (fun _ => rfl) (
  tt_Qi rfl h fun h =>
  tt_J (L1 := (bk_172_14.drop 16)) 2 [some (.ref 97), some (.int x1), some (.int x2), some (.int (x3 + ((-1) : Int32))), some (.int (x4 + (1 : Int32))), some (.int (I 101 (x4).toNatClampNeg)), none] [.int (x3 + ((-1) : Int32)), .ref 115, .int (I 115 (((x3 + ((-1) : Int32)) - (1 : Int32))).toNatClampNeg), .int (I 101 (x4).toNatClampNeg), .int ((x3 + ((-1) : Int32)) - (1 : Int32)), .ref 115] (cw κ cs I J W) (fun _ => rfl) (
  tt_Qi rfl h fun h =>
  tt_C (L1 := (bk_172_14.drop 18)) 1 [some (.ref 97), some (.int x1), some (.int x2), some (.int (x3 + ((-1) : Int32))), some (.int (x4 + (1 : Int32))), some (.int (I 101 (x4).toNatClampNeg)), none] [.int ((x3 + ((-1) : Int32)) - (1 : Int32)), .ref 115] (cw κ cs I J W) h (fun _ => rfl) (fun _ e => m_171 (d := d) e) fun q2 h =>
  let I3 := up I 115 (((x3 + ((-1) : Int32)) - (1 : Int32))).toNatClampNeg q2
  tt_Wi rfl (Nat.le_of_ble_eq_true rfl) h fun h =>
  tt_F [some (.ref 97), some (.int x1), some (.int x2), some (.int (x3 + ((-1) : Int32))), some (.int (x4 + (1 : Int32))), none, none] (And.intro rfl (And.intro rfl (And.intro rfl (And.intro rfl (And.intro rfl trivial))))) (tl_172_15 c2 k2 x1 x2 (x3 + ((-1) : Int32)) (x4 + (1 : Int32)) I3 _ h)))))))))
theorem tn_172_2 {d : Nat} {κ : Nat × Option Nat} {cs : Nat × Nat} {J : Nat → Nat → Int64} {W : Nat} : ∀ (n : Nat) (x1 : Int32) (x2 : Int32) (x3 : Int32) (x4 : Int32) (I : (Nat → Nat → Int32)) (r : (Int32 × (Nat → Nat → Int32))), fx (fun _ _ _ _ _ => none) (bd_172_2 ) n x1 x2 x3 x4 I = some r → tt (d + 1) me_172 bk_172_2 [some (.ref 97), some (.int x1), some (.int x2), some (.int x3), some (.int x4), none, none] [] (cw κ cs I J W) (.inl (some (.int r.1))) (cw κ cs r.2 J W)
  | 0 => fun _ _ _ _ _ _ h => nomatch h
  | n + 1 => fun x1 x2 x3 x4 I r h => tb_172_2  (fx _ (bd_172_2 ) n) (tn_172_2  n) x1 x2 x3 x4 I r h
theorem tl_172_2 {d : Nat} {κ : Nat × Option Nat} {cs : Nat × Nat} {J : Nat → Nat → Int64} {W : Nat} (x1 : Int32) (x2 : Int32) (x3 : Int32) (x4 : Int32) (I : (Nat → Nat → Int32)) (r : (Int32 × (Nat → Nat → Int32))) (h : lb_172_2  x1 x2 x3 x4 I = some r) : tt (d + 1) me_172 bk_172_2 [some (.ref 97), some (.int x1), some (.int x2), some (.int x3), some (.int x4), none, none] [] (cw κ cs I J W) (.inl (some (.int r.1))) (cw κ cs r.2 J W) := tn_172_2  FU x1 x2 x3 x4 I r h
theorem m_172 {d : Nat} {κ : Nat × Option Nat} {cs : Nat × Nat} {J : Nat → Nat → Int64} {W : Nat} {x1 : Int32} {x2 : Int32} {I : (Nat → Nat → Int32)} {r : (Int32 × (Nat → Nat → Int32))} (h : f_172 x1 x2 I = some r) : tm (d + 1) 172 [.ref 97, .int x1, .int x2] (cw κ cs I J W) (.inl (some (.int r.1))) (cw κ cs r.2 J W) :=
  tm_of me_172 rfl (Nat.le_of_ble_eq_true rfl) (
  tt_I (L1 := (bk_172_0.drop 3)) (L2 := bk_172_1) 3 [some (.ref 97), some (.int x1), some (.int x2), none, none, none, none] [] (cw κ cs I J W) h (fun _ => rfl) (fun h =>
  tt_J (L1 := (bk_172_0.drop 9)) 5 [some (.ref 97), some (.int x1), some (.int x2), none, none, none, none] [.int (I 97 2), .int ((I 97 2) / (2 : Int32))] (cw κ cs I J W) (fun _ => rfl) (
  tt_Dr h fun h =>
  tt_R 1 (fun r => (.inl (some (.int r.1)))) (fun r => (cw κ cs r.2 J W)) h (fun _ => rfl))) (fun h =>
  tt_J (L1 := (bk_172_1.drop 5)) 4 [some (.ref 97), some (.int x1), some (.int x2), some (.int (0 : Int32)), none, none, none] [.int x1, .ref 100] (cw κ cs I J W) (fun _ => rfl) (
  tt_Qi rfl h fun h =>
  tt_J (L1 := bk_172_2) 0 [some (.ref 97), some (.int x1), some (.int x2), some (.int (0 : Int32)), some (.int (I 100 (x1).toNatClampNeg)), none, none] [] (cw κ cs I J W) (fun _ => rfl) (tt_F [some (.ref 97), some (.int x1), some (.int x2), some (.int (0 : Int32)), some (.int (I 100 (x1).toNatClampNeg)), none, none] (And.intro rfl (And.intro rfl (And.intro rfl (And.intro rfl (And.intro rfl trivial))))) (tl_172_2  x1 x2 (0 : Int32) (I 100 (x1).toNatClampNeg) I _ h)))))
/- 173 -/
def lb_173_2 (s0 : Int32) (I : (Nat → Nat → Int32)) : Option Int32 :=
  (some s0)
def f_173 (x1 : Int32) (I : (Nat → Nat → Int32)) : Option Int32 :=
  (if (I 97 3) = 0 then (lb_173_2  (0 : Int32) I) else (if (I 97 3) = 0 then none else (if ex_in (x1 - x1 / (I 97 3) * (I 97 3)) 8 then (lb_173_2  (I 98 ((x1 - x1 / (I 97 3) * (I 97 3))).toNatClampNeg) I) else none)))
theorem tl_173_2 {d : Nat} {κ : Nat × Option Nat} {cs : Nat × Nat} {J : Nat → Nat → Int64} {W : Nat} (s0 : Int32) (I : (Nat → Nat → Int32)) (r : Int32) (h : lb_173_2  s0 I = some r) : tt d me_173 bk_173_2 [none, none] [.int s0] (cw κ cs I J W) (.inl (some (.int r))) (cw κ cs I J W) :=
  tt_R 1 (fun r => (.inl (some (.int r)))) (fun r => (cw κ cs I J W)) h (fun _ => rfl)
theorem m_173 {d : Nat} {κ : Nat × Option Nat} {cs : Nat × Nat} {J : Nat → Nat → Int64} {W : Nat} {x1 : Int32} {I : (Nat → Nat → Int32)} {r : Int32} (h : f_173 x1 I = some r) : tm d 173 [.ref 97, .int x1] (cw κ cs I J W) (.inl (some (.int r))) (cw κ cs I J W) :=
  tm_of me_173 rfl (Nat.le_of_ble_eq_true rfl) (
  tt_I (L1 := (bk_173_0.drop 3)) (L2 := bk_173_1) 3 [some (.ref 97), some (.int x1)] [] (cw κ cs I J W) h (fun _ => rfl) (fun h =>
  tt_J (L1 := bk_173_2) 1 [some (.ref 97), some (.int x1)] [.int (0 : Int32)] (cw κ cs I J W) (fun _ => rfl) (tt_F [none, none] trivial (tl_173_2  (0 : Int32) I _ h))) (fun h =>
  tt_J (L1 := (bk_173_1.drop 5)) 4 [some (.ref 97), some (.int x1)] [.int (I 97 3), .int x1, .ref 98] (cw κ cs I J W) (fun _ => rfl) (
  tt_Dr h fun h =>
  tt_Qi rfl h fun h =>
  tt_F [none, none] trivial (tl_173_2  (I 98 ((x1 - x1 / (I 97 3) * (I 97 3))).toNatClampNeg) I _ h))))
/- 174 -/
def lb_174_2 (s0 : Int32) (I : (Nat → Nat → Int32)) : Option Int32 :=
  (some s0)
def f_174 (x1 : Int32) (I : (Nat → Nat → Int32)) : Option Int32 :=
  (if (I 97 3) = 0 then (lb_174_2  (1 : Int32) I) else (if (I 97 3) = 0 then none else (if ex_in (x1 - x1 / (I 97 3) * (I 97 3)) 8 then (lb_174_2  (I 99 ((x1 - x1 / (I 97 3) * (I 97 3))).toNatClampNeg) I) else none)))
theorem tl_174_2 {d : Nat} {κ : Nat × Option Nat} {cs : Nat × Nat} {J : Nat → Nat → Int64} {W : Nat} (s0 : Int32) (I : (Nat → Nat → Int32)) (r : Int32) (h : lb_174_2  s0 I = some r) : tt d me_174 bk_174_2 [none, none] [.int s0] (cw κ cs I J W) (.inl (some (.int r))) (cw κ cs I J W) :=
  tt_R 1 (fun r => (.inl (some (.int r)))) (fun r => (cw κ cs I J W)) h (fun _ => rfl)
theorem m_174 {d : Nat} {κ : Nat × Option Nat} {cs : Nat × Nat} {J : Nat → Nat → Int64} {W : Nat} {x1 : Int32} {I : (Nat → Nat → Int32)} {r : Int32} (h : f_174 x1 I = some r) : tm d 174 [.ref 97, .int x1] (cw κ cs I J W) (.inl (some (.int r))) (cw κ cs I J W) :=
  tm_of me_174 rfl (Nat.le_of_ble_eq_true rfl) (
  tt_I (L1 := (bk_174_0.drop 3)) (L2 := bk_174_1) 3 [some (.ref 97), some (.int x1)] [] (cw κ cs I J W) h (fun _ => rfl) (fun h =>
  tt_J (L1 := bk_174_2) 1 [some (.ref 97), some (.int x1)] [.int (1 : Int32)] (cw κ cs I J W) (fun _ => rfl) (tt_F [none, none] trivial (tl_174_2  (1 : Int32) I _ h))) (fun h =>
  tt_J (L1 := (bk_174_1.drop 5)) 4 [some (.ref 97), some (.int x1)] [.int (I 97 3), .int x1, .ref 99] (cw κ cs I J W) (fun _ => rfl) (
  tt_Dr h fun h =>
  tt_Qi rfl h fun h =>
  tt_F [none, none] trivial (tl_174_2  (I 99 ((x1 - x1 / (I 97 3) * (I 97 3))).toNatClampNeg) I _ h))))
/- 175 -/
def lb_175_2 (s0 : Int32) (I : (Nat → Nat → Int32)) : Option Int32 :=
  (some s0)
def f_175 (x1 : Int32) (I : (Nat → Nat → Int32)) : Option Int32 :=
  (if (I 97 3) = 0 then (lb_175_2  (0 : Int32) I) else (if (I 97 3) = 0 then none else (lb_175_2  (x1 - x1 / (I 97 3) * (I 97 3)) I)))
theorem tl_175_2 {d : Nat} {κ : Nat × Option Nat} {cs : Nat × Nat} {J : Nat → Nat → Int64} {W : Nat} (s0 : Int32) (I : (Nat → Nat → Int32)) (r : Int32) (h : lb_175_2  s0 I = some r) : tt d me_175 bk_175_2 [none, none] [.int s0] (cw κ cs I J W) (.inl (some (.int r))) (cw κ cs I J W) :=
  tt_R 1 (fun r => (.inl (some (.int r)))) (fun r => (cw κ cs I J W)) h (fun _ => rfl)
theorem m_175 {d : Nat} {κ : Nat × Option Nat} {cs : Nat × Nat} {J : Nat → Nat → Int64} {W : Nat} {x1 : Int32} {I : (Nat → Nat → Int32)} {r : Int32} (h : f_175 x1 I = some r) : tm d 175 [.ref 97, .int x1] (cw κ cs I J W) (.inl (some (.int r))) (cw κ cs I J W) :=
  tm_of me_175 rfl (Nat.le_of_ble_eq_true rfl) (
  tt_I (L1 := (bk_175_0.drop 3)) (L2 := bk_175_1) 3 [some (.ref 97), some (.int x1)] [] (cw κ cs I J W) h (fun _ => rfl) (fun h =>
  tt_J (L1 := bk_175_2) 1 [some (.ref 97), some (.int x1)] [.int (0 : Int32)] (cw κ cs I J W) (fun _ => rfl) (tt_F [none, none] trivial (tl_175_2  (0 : Int32) I _ h))) (fun h =>
  tt_J (L1 := (bk_175_1.drop 3)) 2 [some (.ref 97), some (.int x1)] [.int (I 97 3), .int x1] (cw κ cs I J W) (fun _ => rfl) (
  tt_Dr h fun h =>
  tt_F [none, none] trivial (tl_175_2  (x1 - x1 / (I 97 3) * (I 97 3)) I _ h))))
/- 176 -/
def lb_176_2 (s1 : Int32) (I : (Nat → Nat → Int32)) : Option (Int32 × (Nat → Nat → Int32)) :=
  ((f_132 s1 (1 : Int32) I).bind fun q1 => (if (q1.1 = 0 ∨ q1.1 = 1) then some (q1.1, q1.2) else none))
def lb_176_1 (I : (Nat → Nat → Int32)) : Option (Int32 × (Nat → Nat → Int32)) :=
  (lb_176_2  (0 : Int32) I)
def f_176 (x1 : Int32) (I : (Nat → Nat → Int32)) : Option (Int32 × (Nat → Nat → Int32)) :=
  (if x1 < 0 then (lb_176_1   I) else (if x1 < (I 97 1) then (lb_176_2  (1 : Int32) I) else (lb_176_1   I)))
theorem tl_176_2 {d : Nat} {κ : Nat × Option Nat} {cs : Nat × Nat} {J : Nat → Nat → Int64} {W : Nat} (s1 : Int32) (I : (Nat → Nat → Int32)) (r : (Int32 × (Nat → Nat → Int32))) (h : lb_176_2  s1 I = some r) : tt (d + 1) me_176 bk_176_2 [none, none] [.int s1, .ref 97] (cw κ cs I J W) (.inl (some (.int r.1))) (cw κ cs r.2 J W) :=
  tt_C (L1 := (bk_176_2.drop 2)) 2 [none, none] [] (cw κ cs I J W) h (fun _ => rfl) (fun _ e => m_132 (d := d) e) fun q1 h =>
  tt_B 1 (fun r => (.inl (some (.int r.1)))) (fun r => (cw κ cs r.2 J W)) h (fun q => Or.inr (Or.inl ⟨rfl, q⟩)) (fun _ => rfl)
theorem tl_176_1 {d : Nat} {κ : Nat × Option Nat} {cs : Nat × Nat} {J : Nat → Nat → Int64} {W : Nat} (I : (Nat → Nat → Int32)) (r : (Int32 × (Nat → Nat → Int32))) (h : lb_176_1   I = some r) : tt (d + 1) me_176 bk_176_1 [none, none] [.ref 97] (cw κ cs I J W) (.inl (some (.int r.1))) (cw κ cs r.2 J W) :=
  tt_J (L1 := bk_176_2) 0 [none, none] [.int (0 : Int32), .ref 97] (cw κ cs I J W) (fun _ => rfl) (tt_F [none, none] trivial (tl_176_2  (0 : Int32) I _ h))
theorem m_176 {d : Nat} {κ : Nat × Option Nat} {cs : Nat × Nat} {J : Nat → Nat → Int64} {W : Nat} {x1 : Int32} {I : (Nat → Nat → Int32)} {r : (Int32 × (Nat → Nat → Int32))} (h : f_176 x1 I = some r) : tm (d + 1) 176 [.ref 97, .int x1] (cw κ cs I J W) (.inl (some (.int r.1))) (cw κ cs r.2 J W) :=
  tm_of me_176 rfl (Nat.le_of_ble_eq_true rfl) (
  tt_I (L1 := bk_176_1) (L2 := (bk_176_0.drop 3)) 3 [some (.ref 97), some (.int x1)] [.ref 97] (cw κ cs I J W) h (fun _ => rfl) (fun h =>
  tt_F [none, none] trivial (tl_176_1   I _ h)) (fun h =>
  tt_I (L1 := (bk_176_0.drop 7)) (L2 := bk_176_1) 4 [some (.ref 97), some (.int x1)] [.ref 97] (cw κ cs I J W) h (fun _ => rfl) (fun h =>
  tt_J (L1 := bk_176_2) 1 [some (.ref 97), some (.int x1)] [.int (1 : Int32), .ref 97] (cw κ cs I J W) (fun _ => rfl) (tt_F [none, none] trivial (tl_176_2  (1 : Int32) I _ h))) (fun h =>
  tt_F [none, none] trivial (tl_176_1   I _ h))))
/- 177 -/
def lb_177_2 (x2 : Int32) (s1 : Int32) (I : (Nat → Nat → Int32)) : Option (Int32 × (Nat → Nat → Int32)) :=
  ((f_132 s1 x2 I).bind fun q1 => (if (q1.1 = 0 ∨ q1.1 = 1) then some (q1.1, q1.2) else none))
def lb_177_1 (x2 : Int32) (I : (Nat → Nat → Int32)) : Option (Int32 × (Nat → Nat → Int32)) :=
  (lb_177_2  x2 (0 : Int32) I)
def f_177 (x1 : Int32) (x2 : Int32) (I : (Nat → Nat → Int32)) : Option (Int32 × (Nat → Nat → Int32)) :=
  (if x1 < 0 then (lb_177_1  x2 I) else (if x1 < (I 97 2) then (lb_177_2  x2 (1 : Int32) I) else (lb_177_1  x2 I)))
theorem tl_177_2 {d : Nat} {κ : Nat × Option Nat} {cs : Nat × Nat} {J : Nat → Nat → Int64} {W : Nat} (x2 : Int32) (s1 : Int32) (I : (Nat → Nat → Int32)) (r : (Int32 × (Nat → Nat → Int32))) (h : lb_177_2  x2 s1 I = some r) : tt (d + 1) me_177 bk_177_2 [none, none, some (.int x2)] [.int s1, .ref 97] (cw κ cs I J W) (.inl (some (.int r.1))) (cw κ cs r.2 J W) :=
  tt_C (L1 := (bk_177_2.drop 2)) 2 [none, none, some (.int x2)] [] (cw κ cs I J W) h (fun _ => rfl) (fun _ e => m_132 (d := d) e) fun q1 h =>
  tt_B 1 (fun r => (.inl (some (.int r.1)))) (fun r => (cw κ cs r.2 J W)) h (fun q => Or.inr (Or.inl ⟨rfl, q⟩)) (fun _ => rfl)
theorem tl_177_1 {d : Nat} {κ : Nat × Option Nat} {cs : Nat × Nat} {J : Nat → Nat → Int64} {W : Nat} (x2 : Int32) (I : (Nat → Nat → Int32)) (r : (Int32 × (Nat → Nat → Int32))) (h : lb_177_1  x2 I = some r) : tt (d + 1) me_177 bk_177_1 [none, none, some (.int x2)] [.ref 97] (cw κ cs I J W) (.inl (some (.int r.1))) (cw κ cs r.2 J W) :=
  tt_J (L1 := bk_177_2) 0 [none, none, some (.int x2)] [.int (0 : Int32), .ref 97] (cw κ cs I J W) (fun _ => rfl) (tt_F [none, none, some (.int x2)] (And.intro rfl trivial) (tl_177_2  x2 (0 : Int32) I _ h))
theorem m_177 {d : Nat} {κ : Nat × Option Nat} {cs : Nat × Nat} {J : Nat → Nat → Int64} {W : Nat} {x1 : Int32} {x2 : Int32} {I : (Nat → Nat → Int32)} {r : (Int32 × (Nat → Nat → Int32))} (h : f_177 x1 x2 I = some r) : tm (d + 1) 177 [.ref 97, .int x1, .int x2] (cw κ cs I J W) (.inl (some (.int r.1))) (cw κ cs r.2 J W) :=
  tm_of me_177 rfl (Nat.le_of_ble_eq_true rfl) (
  tt_I (L1 := bk_177_1) (L2 := (bk_177_0.drop 3)) 3 [some (.ref 97), some (.int x1), some (.int x2)] [.ref 97] (cw κ cs I J W) h (fun _ => rfl) (fun h =>
  tt_F [none, none, some (.int x2)] (And.intro rfl trivial) (tl_177_1  x2 I _ h)) (fun h =>
  tt_I (L1 := (bk_177_0.drop 7)) (L2 := bk_177_1) 4 [some (.ref 97), some (.int x1), some (.int x2)] [.ref 97] (cw κ cs I J W) h (fun _ => rfl) (fun h =>
  tt_J (L1 := bk_177_2) 1 [some (.ref 97), some (.int x1), some (.int x2)] [.int (1 : Int32), .ref 97] (cw κ cs I J W) (fun _ => rfl) (tt_F [none, none, some (.int x2)] (And.intro rfl trivial) (tl_177_2  x2 (1 : Int32) I _ h))) (fun h =>
  tt_F [none, none, some (.int x2)] (And.intro rfl trivial) (tl_177_1  x2 I _ h))))
/- 178 -/
def f_178 (x1 : Int32) (x2 : Int32) (I : (Nat → Nat → Int32)) : Option (Int32 × (Nat → Nat → Int32)) :=
  ((f_133 x1 (0 : Int32) (60 : Int32) ).bind fun q1 => ((f_132 q1 x2 I).bind fun q2 => (if (q2.1 = 0 ∨ q2.1 = 1) then some (q2.1, q2.2) else none)))
theorem m_178 {d : Nat} {κ : Nat × Option Nat} {cs : Nat × Nat} {J : Nat → Nat → Int64} {W : Nat} {x1 : Int32} {x2 : Int32} {I : (Nat → Nat → Int32)} {r : (Int32 × (Nat → Nat → Int32))} (h : f_178 x1 x2 I = some r) : tm (d + 1) 178 [.ref 97, .int x1, .int x2] (cw κ cs I J W) (.inl (some (.int r.1))) (cw κ cs r.2 J W) :=
  tm_of me_178 rfl (Nat.le_of_ble_eq_true rfl) (
  tt_C (L1 := (bk_178_0.drop 5)) 5 [some (.ref 97), some (.int x1), some (.int x2)] [.ref 97] (cw κ cs I J W) h (fun _ => rfl) (fun _ e => m_133 (d := d) e) fun q1 h =>
  tt_C (L1 := (bk_178_0.drop 7)) 2 [some (.ref 97), some (.int x1), some (.int x2)] [] (cw κ cs I J W) h (fun _ => rfl) (fun _ e => m_132 (d := d) e) fun q2 h =>
  tt_B 1 (fun r => (.inl (some (.int r.1)))) (fun r => (cw κ cs r.2 J W)) h (fun q => Or.inr (Or.inl ⟨rfl, q⟩)) (fun _ => rfl))
/- 179 -/
def lb_179_3 (I : (Nat → Nat → Int32)) : Option (Int32 × (Nat → Nat → Int32)) :=
  (some ((0 : Int32), I))
def lb_179_7 (s0 : Int32) (I : (Nat → Nat → Int32)) : Option (Int32 × (Nat → Nat → Int32)) :=
  (some (s0, I))
def lb_179_2 (x1 : Int32) (x2 : Int32) (x3 : Int32) (s1 : Int32) (I : (Nat → Nat → Int32)) : Option (Int32 × (Nat → Nat → Int32)) :=
  ((f_132 s1 (1 : Int32) I).bind fun q2 => (if q2.1 = 0 then (lb_179_3   q2.2) else ((f_177 x2 (1 : Int32) q2.2).bind fun q3 => (if q3.1 = 0 then (lb_179_3   q3.2) else ((f_133 x3 (0 : Int32) (2 : Int32) ).bind fun q4 => ((f_132 q4 (1 : Int32) q3.2).bind fun q5 => (if q5.1 = 0 then (lb_179_3   q5.2) else (if ex_in x1 8 then (if ex_in x1 8 then ((f_167 (q5.2 98 (x1).toNatClampNeg) (q5.2 99 (x1).toNatClampNeg) q5.2).bind fun q6 => (if x3 = 0 then (if ex_in x1 8 then (lb_179_7  (q6 98 (x1).toNatClampNeg) q6) else none) else (if x3 = (1 : Int32) then (if ex_in x1 8 then (lb_179_7  (q6 99 (x1).toNatClampNeg) q6) else none) else ((f_172 x1 x2 q6).bind fun q7 => (lb_179_7  q7.1 q7.2))))) else none) else none))))))))
def lb_179_1 (x1 : Int32) (x2 : Int32) (x3 : Int32) (I : (Nat → Nat → Int32)) : Option (Int32 × (Nat → Nat → Int32)) :=
  (lb_179_2  x1 x2 x3 (0 : Int32) I)
def f_179 (x1 : Int32) (x2 : Int32) (x3 : Int32) (I : (Nat → Nat → Int32)) : Option (Int32 × (Nat → Nat → Int32)) :=
  (let I1 := up I 97 0 (0 : Int32)
  (if x1 < 0 then (lb_179_1  x1 x2 x3 I1) else (if x1 < (I1 97 3) then (lb_179_2  x1 x2 x3 (1 : Int32) I1) else (lb_179_1  x1 x2 x3 I1))))
theorem tl_179_3 {d : Nat} {κ : Nat × Option Nat} {cs : Nat × Nat} {J : Nat → Nat → Int64} {W : Nat} (I : (Nat → Nat → Int32)) (r : (Int32 × (Nat → Nat → Int32))) (h : lb_179_3   I = some r) : tt (d + 2) me_179 bk_179_3 [none, none, none, none] [] (cw κ cs I J W) (.inl (some (.int r.1))) (cw κ cs r.2 J W) :=
  tt_R 2 (fun r => (.inl (some (.int r.1)))) (fun r => (cw κ cs r.2 J W)) h (fun _ => rfl)
theorem tl_179_7 {d : Nat} {κ : Nat × Option Nat} {cs : Nat × Nat} {J : Nat → Nat → Int64} {W : Nat} (s0 : Int32) (I : (Nat → Nat → Int32)) (r : (Int32 × (Nat → Nat → Int32))) (h : lb_179_7  s0 I = some r) : tt (d + 2) me_179 bk_179_7 [none, none, none, none] [.int s0] (cw κ cs I J W) (.inl (some (.int r.1))) (cw κ cs r.2 J W) :=
  tt_R 1 (fun r => (.inl (some (.int r.1)))) (fun r => (cw κ cs r.2 J W)) h (fun _ => rfl)
theorem tl_179_2 {d : Nat} {κ : Nat × Option Nat} {cs : Nat × Nat} {J : Nat → Nat → Int64} {W : Nat} (x1 : Int32) (x2 : Int32) (x3 : Int32) (s1 : Int32) (I : (Nat → Nat → Int32)) (r : (Int32 × (Nat → Nat → Int32))) (h : lb_179_2  x1 x2 x3 s1 I = some r) : tt (d + 2) me_179 bk_179_2 [some (.ref 97), some (.int x1), some (.int x2), some (.int x3)] [.int s1, .ref 97] (cw κ cs I J W) (.inl (some (.int r.1))) (cw κ cs r.2 J W) :=
  tt_C (L1 := (bk_179_2.drop 2)) 2 [some (.ref 97), some (.int x1), some (.int x2), some (.int x3)] [] (cw κ cs I J W) h (fun _ => rfl) (fun _ e => m_132 (d := d + 1) e) fun q2 h =>
  tt_I (L1 := bk_179_3) (L2 := (bk_179_2.drop 3)) 1 [some (.ref 97), some (.int x1), some (.int x2), some (.int x3)] [] (cw κ cs q2.2 J W) h (fun _ => rfl) (fun h =>
  tt_F [none, none, none, none] trivial (tl_179_3   q2.2 _ h)) (fun h =>
  tt_C (L1 := (bk_179_2.drop 7)) 4 [some (.ref 97), some (.int x1), some (.int x2), some (.int x3)] [] (cw κ cs q2.2 J W) h (fun _ => rfl) (fun _ e => m_177 (d := d) e) fun q3 h =>
  tt_I (L1 := bk_179_3) (L2 := (bk_179_2.drop 8)) 1 [some (.ref 97), some (.int x1), some (.int x2), some (.int x3)] [] (cw κ cs q3.2 J W) h (fun _ => rfl) (fun h =>
  tt_F [none, none, none, none] trivial (tl_179_3   q3.2 _ h)) (fun h =>
  tt_C (L1 := (bk_179_2.drop 13)) 5 [some (.ref 97), some (.int x1), some (.int x2), some (.int x3)] [.ref 97] (cw κ cs q3.2 J W) h (fun _ => rfl) (fun _ e => m_133 (d := d + 1) e) fun q4 h =>
  tt_C (L1 := (bk_179_2.drop 15)) 2 [some (.ref 97), some (.int x1), some (.int x2), some (.int x3)] [] (cw κ cs q3.2 J W) h (fun _ => rfl) (fun _ e => m_132 (d := d + 1) e) fun q5 h =>
  tt_I (L1 := bk_179_3) (L2 := bk_179_4) 1 [some (.ref 97), some (.int x1), some (.int x2), some (.int x3)] [] (cw κ cs q5.2 J W) h (fun _ => rfl) (fun h =>
  tt_F [none, none, none, none] trivial (tl_179_3   q5.2 _ h)) (fun h =>
  tt_J (L1 := (bk_179_4.drop 4)) 3 [some (.ref 97), some (.int x1), some (.int x2), some (.int x3)] [.int x1, .ref 98, .ref 97] (cw κ cs q5.2 J W) (fun _ => rfl) (
  tt_Qi rfl h fun h =>
  tt_J (L1 := (bk_179_4.drop 8)) 2 [some (.ref 97), some (.int x1), some (.int x2), some (.int x3)] [.int x1, .ref 99, .int (q5.2 98 (x1).toNatClampNeg), .ref 97] (cw κ cs q5.2 J W) (fun _ => rfl) (
  tt_Qi rfl h fun h =>
  tt_C (L1 := (bk_179_4.drop 10)) 1 [some (.ref 97), some (.int x1), some (.int x2), some (.int x3)] [] (cw κ cs q5.2 J W) h (fun _ => rfl) (fun _ e => m_167 (d := d) e) fun q6 h =>
  tt_I (L1 := (bk_179_4.drop 12)) (L2 := bk_179_5) 2 [some (.ref 97), some (.int x1), some (.int x2), some (.int x3)] [] (cw κ cs q6 J W) h (fun _ => rfl) (fun h =>
  tt_J (L1 := (bk_179_4.drop 15)) 2 [some (.ref 97), some (.int x1), some (.int x2), some (.int x3)] [.int x1, .ref 98] (cw κ cs q6 J W) (fun _ => rfl) (
  tt_Qi rfl h fun h =>
  tt_J (L1 := bk_179_7) 0 [some (.ref 97), some (.int x1), some (.int x2), some (.int x3)] [.int (q6 98 (x1).toNatClampNeg)] (cw κ cs q6 J W) (fun _ => rfl) (tt_F [none, none, none, none] trivial (tl_179_7  (q6 98 (x1).toNatClampNeg) q6 _ h)))) (fun h =>
  tt_I (L1 := (bk_179_5.drop 3)) (L2 := bk_179_6) 3 [some (.ref 97), some (.int x1), some (.int x2), some (.int x3)] [] (cw κ cs q6 J W) h (fun _ => rfl) (fun h =>
  tt_J (L1 := (bk_179_5.drop 6)) 2 [some (.ref 97), some (.int x1), some (.int x2), some (.int x3)] [.int x1, .ref 99] (cw κ cs q6 J W) (fun _ => rfl) (
  tt_Qi rfl h fun h =>
  tt_J (L1 := bk_179_7) 0 [some (.ref 97), some (.int x1), some (.int x2), some (.int x3)] [.int (q6 99 (x1).toNatClampNeg)] (cw κ cs q6 J W) (fun _ => rfl) (tt_F [none, none, none, none] trivial (tl_179_7  (q6 99 (x1).toNatClampNeg) q6 _ h)))) (fun h =>
  tt_C (L1 := bk_179_7) 4 [some (.ref 97), some (.int x1), some (.int x2), some (.int x3)] [] (cw κ cs q6 J W) h (fun _ => rfl) (fun _ e => m_172 (d := d) e) fun q7 h =>
  tt_F [none, none, none, none] trivial (tl_179_7  q7.1 q7.2 _ h))))))))
theorem tl_179_1 {d : Nat} {κ : Nat × Option Nat} {cs : Nat × Nat} {J : Nat → Nat → Int64} {W : Nat} (x1 : Int32) (x2 : Int32) (x3 : Int32) (I : (Nat → Nat → Int32)) (r : (Int32 × (Nat → Nat → Int32))) (h : lb_179_1  x1 x2 x3 I = some r) : tt (d + 2) me_179 bk_179_1 [some (.ref 97), some (.int x1), some (.int x2), some (.int x3)] [.ref 97] (cw κ cs I J W) (.inl (some (.int r.1))) (cw κ cs r.2 J W) :=
  tt_J (L1 := bk_179_2) 0 [some (.ref 97), some (.int x1), some (.int x2), some (.int x3)] [.int (0 : Int32), .ref 97] (cw κ cs I J W) (fun _ => rfl) (tt_F [some (.ref 97), some (.int x1), some (.int x2), some (.int x3)] (And.intro rfl (And.intro rfl (And.intro rfl (And.intro rfl trivial)))) (tl_179_2  x1 x2 x3 (0 : Int32) I _ h))
theorem m_179 {d : Nat} {κ : Nat × Option Nat} {cs : Nat × Nat} {J : Nat → Nat → Int64} {W : Nat} {x1 : Int32} {x2 : Int32} {x3 : Int32} {I : (Nat → Nat → Int32)} {r : (Int32 × (Nat → Nat → Int32))} (h : f_179 x1 x2 x3 I = some r) : tm (d + 2) 179 [.ref 97, .int x1, .int x2, .int x3] (cw κ cs I J W) (.inl (some (.int r.1))) (cw κ cs r.2 J W) :=
  tm_of me_179 rfl (Nat.le_of_ble_eq_true rfl) (
  let I1 := up I 97 0 (0 : Int32)
  tt_I (L1 := bk_179_1) (L2 := (bk_179_0.drop 6)) 6 [some (.ref 97), some (.int x1), some (.int x2), some (.int x3)] [.ref 97] (cw κ cs I1 J W) h (fun _ => rfl) (fun h =>
  tt_F [some (.ref 97), some (.int x1), some (.int x2), some (.int x3)] (And.intro rfl (And.intro rfl (And.intro rfl (And.intro rfl trivial)))) (tl_179_1  x1 x2 x3 I1 _ h)) (fun h =>
  tt_I (L1 := (bk_179_0.drop 10)) (L2 := bk_179_1) 4 [some (.ref 97), some (.int x1), some (.int x2), some (.int x3)] [.ref 97] (cw κ cs I1 J W) h (fun _ => rfl) (fun h =>
  tt_J (L1 := bk_179_2) 1 [some (.ref 97), some (.int x1), some (.int x2), some (.int x3)] [.int (1 : Int32), .ref 97] (cw κ cs I1 J W) (fun _ => rfl) (tt_F [some (.ref 97), some (.int x1), some (.int x2), some (.int x3)] (And.intro rfl (And.intro rfl (And.intro rfl (And.intro rfl trivial)))) (tl_179_2  x1 x2 x3 (1 : Int32) I1 _ h))) (fun h =>
  tt_F [some (.ref 97), some (.int x1), some (.int x2), some (.int x3)] (And.intro rfl (And.intro rfl (And.intro rfl (And.intro rfl trivial)))) (tl_179_1  x1 x2 x3 I1 _ h))))
/- 180 -/
def lb_180_3 (I : (Nat → Nat → Int32)) : Option (Int32 × (Nat → Nat → Int32)) :=
  (some ((0 : Int32), I))
def lb_180_2 (x1 : Int32) (x2 : Int32) (x3 : Int32) (s1 : Int32) (I : (Nat → Nat → Int32)) : Option (Int32 × (Nat → Nat → Int32)) :=
  ((f_132 s1 (1 : Int32) I).bind fun q3 => (if q3.1 = 0 then (lb_180_3   q3.2) else ((f_177 x3 (1 : Int32) q3.2).bind fun q4 => (if q4.1 = 0 then (lb_180_3   q4.2) else ((f_173 x2 q4.2).bind fun q5 => ((f_174 x2 q4.2).bind fun q6 => ((f_167 q5 q6 q4.2).bind fun q7 => ((f_175 x2 q7).bind fun q8 => ((f_172 q8 x3 q7).bind fun q9 => ((f_168 x3 x3 q9.1 q9.2).bind fun q10 => ((f_170 x1 q10).bind fun q11 => (some (q11, q10)))))))))))))
def f_180 (x1 : Int32) (x2 : Int32) (x3 : Int32) (I : (Nat → Nat → Int32)) : Option (Int32 × (Nat → Nat → Int32)) :=
  (let I1 := up I 97 0 (0 : Int32)
  ((f_176 x1 I1).bind fun q2 => (if q2.1 = 0 then (lb_180_3   q2.2) else (if x2 < 0 then (lb_180_2  x1 x2 x3 (0 : Int32) q2.2) else (lb_180_2  x1 x2 x3 (1 : Int32) q2.2)))))
theorem tl_180_3 {d : Nat} {κ : Nat × Option Nat} {cs : Nat × Nat} {J : Nat → Nat → Int64} {W : Nat} (I : (Nat → Nat → Int32)) (r : (Int32 × (Nat → Nat → Int32))) (h : lb_180_3   I = some r) : tt (d + 2) me_180 bk_180_3 [none, none, none, none] [] (cw κ cs I J W) (.inl (some (.int r.1))) (cw κ cs r.2 J W) :=
  tt_R 2 (fun r => (.inl (some (.int r.1)))) (fun r => (cw κ cs r.2 J W)) h (fun _ => rfl)
theorem tl_180_2 {d : Nat} {κ : Nat × Option Nat} {cs : Nat × Nat} {J : Nat → Nat → Int64} {W : Nat} (x1 : Int32) (x2 : Int32) (x3 : Int32) (s1 : Int32) (I : (Nat → Nat → Int32)) (r : (Int32 × (Nat → Nat → Int32))) (h : lb_180_2  x1 x2 x3 s1 I = some r) : tt (d + 2) me_180 bk_180_2 [some (.ref 97), some (.int x1), some (.int x2), some (.int x3)] [.int s1, .ref 97] (cw κ cs I J W) (.inl (some (.int r.1))) (cw κ cs r.2 J W) :=
  tt_C (L1 := (bk_180_2.drop 2)) 2 [some (.ref 97), some (.int x1), some (.int x2), some (.int x3)] [] (cw κ cs I J W) h (fun _ => rfl) (fun _ e => m_132 (d := d + 1) e) fun q3 h =>
  tt_I (L1 := bk_180_3) (L2 := (bk_180_2.drop 3)) 1 [some (.ref 97), some (.int x1), some (.int x2), some (.int x3)] [] (cw κ cs q3.2 J W) h (fun _ => rfl) (fun h =>
  tt_F [none, none, none, none] trivial (tl_180_3   q3.2 _ h)) (fun h =>
  tt_C (L1 := (bk_180_2.drop 7)) 4 [some (.ref 97), some (.int x1), some (.int x2), some (.int x3)] [] (cw κ cs q3.2 J W) h (fun _ => rfl) (fun _ e => m_177 (d := d) e) fun q4 h =>
  tt_I (L1 := bk_180_3) (L2 := bk_180_4) 1 [some (.ref 97), some (.int x1), some (.int x2), some (.int x3)] [] (cw κ cs q4.2 J W) h (fun _ => rfl) (fun h =>
  tt_F [none, none, none, none] trivial (tl_180_3   q4.2 _ h)) (fun h =>
  tt_C (L1 := (bk_180_4.drop 4)) 4 [some (.ref 97), some (.int x1), some (.int x2), some (.int x3)] [.ref 97] (cw κ cs q4.2 J W) h (fun _ => rfl) (fun _ e => m_173 (d := d + 1) e) fun q5 h =>
  tt_C (L1 := (bk_180_4.drop 7)) 3 [some (.ref 97), some (.int x1), some (.int x2), some (.int x3)] [.int q5, .ref 97] (cw κ cs q4.2 J W) h (fun _ => rfl) (fun _ e => m_174 (d := d + 1) e) fun q6 h =>
  tt_C (L1 := (bk_180_4.drop 8)) 1 [some (.ref 97), some (.int x1), some (.int x2), some (.int x3)] [] (cw κ cs q4.2 J W) h (fun _ => rfl) (fun _ e => m_167 (d := d) e) fun q7 h =>
  tt_C (L1 := (bk_180_4.drop 15)) 7 [some (.ref 97), some (.int x1), some (.int x2), some (.int x3)] [.ref 97, .int x3, .int x3, .ref 97] (cw κ cs q7 J W) h (fun _ => rfl) (fun _ e => m_175 (d := d + 1) e) fun q8 h =>
  tt_C (L1 := (bk_180_4.drop 17)) 2 [some (.ref 97), some (.int x1), some (.int x2), some (.int x3)] [.int x3, .int x3, .ref 97] (cw κ cs q7 J W) h (fun _ => rfl) (fun _ e => m_172 (d := d) e) fun q9 h =>
  tt_C (L1 := (bk_180_4.drop 18)) 1 [some (.ref 97), some (.int x1), some (.int x2), some (.int x3)] [] (cw κ cs q9.2 J W) h (fun _ => rfl) (fun _ e => m_168 (d := d) e) fun q10 h =>
  tt_C (L1 := (bk_180_4.drop 21)) 3 [some (.ref 97), some (.int x1), some (.int x2), some (.int x3)] [] (cw κ cs q10 J W) h (fun _ => rfl) (fun _ e => m_170 (d := d + 1) e) fun q11 h =>
  tt_R 1 (fun r => (.inl (some (.int r.1)))) (fun r => (cw κ cs r.2 J W)) h (fun _ => rfl)))
theorem m_180 {d : Nat} {κ : Nat × Option Nat} {cs : Nat × Nat} {J : Nat → Nat → Int64} {W : Nat} {x1 : Int32} {x2 : Int32} {x3 : Int32} {I : (Nat → Nat → Int32)} {r : (Int32 × (Nat → Nat → Int32))} (h : f_180 x1 x2 x3 I = some r) : tm (d + 2) 180 [.ref 97, .int x1, .int x2, .int x3] (cw κ cs I J W) (.inl (some (.int r.1))) (cw κ cs r.2 J W) :=
  tm_of me_180 rfl (Nat.le_of_ble_eq_true rfl) (
  let I1 := up I 97 0 (0 : Int32)
  tt_C (L1 := (bk_180_0.drop 6)) 6 [some (.ref 97), some (.int x1), some (.int x2), some (.int x3)] [] (cw κ cs I1 J W) (show ((f_176 x1 I1).bind fun q2 => (if q2.1 = 0 then (lb_180_3   q2.2) else (if x2 < 0 then (lb_180_2  x1 x2 x3 (0 : Int32) q2.2) else (lb_180_2  x1 x2 x3 (1 : Int32) q2.2)))) = some r from h) (fun _ => rfl) (fun _ e => m_176 (d := d) e) fun q2 h =>
  tt_I (L1 := bk_180_3) (L2 := (bk_180_0.drop 7)) 1 [some (.ref 97), some (.int x1), some (.int x2), some (.int x3)] [] (cw κ cs q2.2 J W) h (fun _ => rfl) (fun h =>
  tt_F [none, none, none, none] trivial (tl_180_3   q2.2 _ h)) (fun h =>
  tt_I (L1 := bk_180_1) (L2 := (bk_180_0.drop 10)) 3 [some (.ref 97), some (.int x1), some (.int x2), some (.int x3)] [.ref 97] (cw κ cs q2.2 J W) h (fun _ => rfl) (fun h =>
  tt_J (L1 := bk_180_2) 0 [some (.ref 97), some (.int x1), some (.int x2), some (.int x3)] [.int (0 : Int32), .ref 97] (cw κ cs q2.2 J W) (fun _ => rfl) (tt_F [some (.ref 97), some (.int x1), some (.int x2), some (.int x3)] (And.intro rfl (And.intro rfl (And.intro rfl (And.intro rfl trivial)))) (tl_180_2  x1 x2 x3 (0 : Int32) q2.2 _ h))) (fun h =>
  tt_J (L1 := bk_180_2) 1 [some (.ref 97), some (.int x1), some (.int x2), some (.int x3)] [.int (1 : Int32), .ref 97] (cw κ cs q2.2 J W) (fun _ => rfl) (tt_F [some (.ref 97), some (.int x1), some (.int x2), some (.int x3)] (And.intro rfl (And.intro rfl (And.intro rfl (And.intro rfl trivial)))) (tl_180_2  x1 x2 x3 (1 : Int32) q2.2 _ h)))))
