/-! functions, by wip/whole/sy.py -/
/- 48 -/
def bd_48_2 (c1 : Int32 → (Nat → Nat → Int32) → Option (Nat → Nat → Int32)) (c2 : Int32 → Int32 → (Nat → Nat → Int32) → Option (Nat → Nat → Int32)) (x4 : Int32) (x5 : Int32) (I : (Nat → Nat → Int32)) : Option (Nat → Nat → Int32) :=
  (if x5 < (I 79 5) then ((f_42 ((-5) : Int32) x5 I).bind fun q8 => ((f_9 (atf (q8 80) 8 x4) x5 q8).bind fun q9 => ((f_42 ((-6) : Int32) q9 q8).bind fun q10 => ((f_43 x4 q10).bind fun q11 => ((f_125 q11.1 (q11.2 79 5) ).bind fun q12 => (let I13 := putf q11.2 82 48 ((x4 * (6 : Int32)) + x5) q12
  (c2 x4 (x5 + (1 : Int32)) I13))))))) else (c1 (x4 + (1 : Int32)) I))
def lb_48_2 (c1 : Int32 → (Nat → Nat → Int32) → Option (Nat → Nat → Int32)) : Int32 → Int32 → (Nat → Nat → Int32) → Option (Nat → Nat → Int32) := fx (fun _ _ _ => none) (bd_48_2 c1) FU
def bd_48_1 (c1 : Int32 → (Nat → Nat → Int32) → Option (Nat → Nat → Int32)) (x4 : Int32) (I : (Nat → Nat → Int32)) : Option (Nat → Nat → Int32) :=
  (if x4 < (I 79 8) then ((f_42 ((-1) : Int32) x4 I).bind fun q7 => (lb_48_2 c1 x4 (0 : Int32) q7)) else (some I))
def lb_48_1 : Int32 → (Nat → Nat → Int32) → Option (Nat → Nat → Int32) := fx (fun _ _ => none) (bd_48_1 ) FU
def f_48 (I : (Nat → Nat → Int32)) : Option (Nat → Nat → Int32) :=
  (let I1 := up I 79 9 (I 79 8)
  (let I2 := cpyf I1 65 80 8
  (let I3 := cpyf I2 66 81 8
  ((f_42 ((-2) : Int32) (I3 79 7) I3).bind fun q4 => ((f_42 ((-3) : Int32) (q4 79 5) q4).bind fun q5 => ((f_42 ((-4) : Int32) (q5 79 4) q5).bind fun q6 => (lb_48_1  (0 : Int32) q6)))))))
theorem tb_48_2 {d : Nat} {κ : Nat × Option Nat} {cs : Nat × Nat} {J : Nat → Nat → Int64} {W : Nat} (c1 : Int32 → (Nat → Nat → Int32) → Option (Nat → Nat → Int32)) (k1 : ∀ (x4 : Int32) (I : (Nat → Nat → Int32)) (r : (Nat → Nat → Int32)), c1 x4 I = some r → tt (d + 3) me_48 bk_48_1 [some (.ref 79), none, some (.ref 74), some (.ref 67), some (.int x4), none] [] (cw κ cs I J W) (.inl none) (cw κ cs r J W)) (c2 : Int32 → Int32 → (Nat → Nat → Int32) → Option (Nat → Nat → Int32)) (k2 : ∀ (x4 : Int32) (x5 : Int32) (I : (Nat → Nat → Int32)) (r : (Nat → Nat → Int32)), c2 x4 x5 I = some r → tt (d + 3) me_48 bk_48_2 [some (.ref 79), none, some (.ref 74), some (.ref 67), some (.int x4), some (.int x5)] [] (cw κ cs I J W) (.inl none) (cw κ cs r J W)) (x4 : Int32) (x5 : Int32) (I : (Nat → Nat → Int32)) (r : (Nat → Nat → Int32)) (h : bd_48_2 c1 c2 x4 x5 I = some r) : tt (d + 3) me_48 bk_48_2 [some (.ref 79), none, some (.ref 74), some (.ref 67), some (.int x4), some (.int x5)] [] (cw κ cs I J W) (.inl none) (cw κ cs r J W) :=
  tt_I (L1 := (bk_48_2.drop 4)) (L2 := bk_48_3) 4 [some (.ref 79), none, some (.ref 74), some (.ref 67), some (.int x4), some (.int x5)] [] (cw κ cs I J W) h (fun _ => rfl) (fun h =>
  tt_C (L1 := (bk_48_2.drop 8)) 4 [some (.ref 79), none, some (.ref 74), some (.ref 67), some (.int x4), some (.int x5)] [] (cw κ cs I J W) h (fun _ => rfl) (fun _ e => m_42 (d := d + 1) e) fun q8 h =>
  tt_K (L1 := (bk_48_2.drop 15)) 7 [some (.ref 79), none, some (.ref 74), some (.ref 67), some (.int x4), some (.int x5)] [.ref 74, .int ((-6) : Int32), .ref 67] (cw κ cs q8 J W) (fun _ => rfl) (m_at 80 8 x4 (Nat.le_of_ble_eq_true rfl) rfl)
  (tt_C (L1 := (bk_48_2.drop 17)) 2 [some (.ref 79), none, some (.ref 74), some (.ref 67), some (.int x4), some (.int x5)] [.int ((-6) : Int32), .ref 67] (cw κ cs q8 J W) h (fun _ => rfl) (fun _ e => m_9 (d := d + 1) e) fun q9 h =>
  tt_C (L1 := (bk_48_2.drop 18)) 1 [some (.ref 79), none, some (.ref 74), some (.ref 67), some (.int x4), some (.int x5)] [] (cw κ cs q8 J W) h (fun _ => rfl) (fun _ e => m_42 (d := d + 1) e) fun q10 h =>
  tt_C (L1 := (bk_48_2.drop 28)) 10 [some (.ref 79), none, some (.ref 74), some (.ref 67), some (.int x4), some (.int x5)] [.int ((x4 * (6 : Int32)) + x5), .ref 82] (cw κ cs q10 J W) h (fun _ => rfl) (fun _ e => m_43 (d := d) e) fun q11 h =>
  tt_C (L1 := (bk_48_2.drop 31)) 3 [some (.ref 79), none, some (.ref 74), some (.ref 67), some (.int x4), some (.int x5)] [.int ((x4 * (6 : Int32)) + x5), .ref 82] (cw κ cs q11.2 J W) h (fun _ => rfl) (fun _ e => m_125 (d := d + 1) e) fun q12 h =>
  let I13 := putf q11.2 82 48 ((x4 * (6 : Int32)) + x5) q12
  tt_K (L1 := (bk_48_2.drop 32)) 1 [some (.ref 79), none, some (.ref 74), some (.ref 67), some (.int x4), some (.int x5)] [] (cw κ cs q11.2 J W) (fun _ => rfl) (m_put 82 48 ((x4 * (6 : Int32)) + x5) q12 (Nat.le_of_ble_eq_true rfl) rfl (Nat.le_of_ble_eq_true rfl))
  (tt_J (L1 := bk_48_2) 1 [some (.ref 79), none, some (.ref 74), some (.ref 67), some (.int x4), some (.int (x5 + (1 : Int32)))] [] (cw κ cs I13 J W) (fun _ => rfl) (tt_F [some (.ref 79), none, some (.ref 74), some (.ref 67), some (.int x4), some (.int (x5 + (1 : Int32)))] (And.intro rfl (And.intro rfl (And.intro rfl (And.intro rfl (And.intro rfl trivial))))) (k2 x4 (x5 + (1 : Int32)) I13 _ h))))) (fun h =>
  tt_J (L1 := bk_48_1) 1 [some (.ref 79), none, some (.ref 74), some (.ref 67), some (.int (x4 + (1 : Int32))), some (.int x5)] [] (cw κ cs I J W) (fun _ => rfl) (tt_F [some (.ref 79), none, some (.ref 74), some (.ref 67), some (.int (x4 + (1 : Int32))), none] (And.intro rfl (And.intro rfl (And.intro rfl (And.intro rfl trivial)))) (k1 (x4 + (1 : Int32)) I _ h)))
theorem tn_48_2 {d : Nat} {κ : Nat × Option Nat} {cs : Nat × Nat} {J : Nat → Nat → Int64} {W : Nat} (c1 : Int32 → (Nat → Nat → Int32) → Option (Nat → Nat → Int32)) (k1 : ∀ (x4 : Int32) (I : (Nat → Nat → Int32)) (r : (Nat → Nat → Int32)), c1 x4 I = some r → tt (d + 3) me_48 bk_48_1 [some (.ref 79), none, some (.ref 74), some (.ref 67), some (.int x4), none] [] (cw κ cs I J W) (.inl none) (cw κ cs r J W)) : ∀ (n : Nat) (x4 : Int32) (x5 : Int32) (I : (Nat → Nat → Int32)) (r : (Nat → Nat → Int32)), fx (fun _ _ _ => none) (bd_48_2 c1) n x4 x5 I = some r → tt (d + 3) me_48 bk_48_2 [some (.ref 79), none, some (.ref 74), some (.ref 67), some (.int x4), some (.int x5)] [] (cw κ cs I J W) (.inl none) (cw κ cs r J W)
  | 0 => fun _ _ _ _ h => nomatch h
  | n + 1 => fun x4 x5 I r h => tb_48_2 c1 k1 (fx _ (bd_48_2 c1) n) (tn_48_2 c1 k1 n) x4 x5 I r h
theorem tl_48_2 {d : Nat} {κ : Nat × Option Nat} {cs : Nat × Nat} {J : Nat → Nat → Int64} {W : Nat} (c1 : Int32 → (Nat → Nat → Int32) → Option (Nat → Nat → Int32)) (k1 : ∀ (x4 : Int32) (I : (Nat → Nat → Int32)) (r : (Nat → Nat → Int32)), c1 x4 I = some r → tt (d + 3) me_48 bk_48_1 [some (.ref 79), none, some (.ref 74), some (.ref 67), some (.int x4), none] [] (cw κ cs I J W) (.inl none) (cw κ cs r J W)) (x4 : Int32) (x5 : Int32) (I : (Nat → Nat → Int32)) (r : (Nat → Nat → Int32)) (h : lb_48_2 c1 x4 x5 I = some r) : tt (d + 3) me_48 bk_48_2 [some (.ref 79), none, some (.ref 74), some (.ref 67), some (.int x4), some (.int x5)] [] (cw κ cs I J W) (.inl none) (cw κ cs r J W) := tn_48_2 c1 k1 FU x4 x5 I r h
theorem tb_48_1 {d : Nat} {κ : Nat × Option Nat} {cs : Nat × Nat} {J : Nat → Nat → Int64} {W : Nat} (c1 : Int32 → (Nat → Nat → Int32) → Option (Nat → Nat → Int32)) (k1 : ∀ (x4 : Int32) (I : (Nat → Nat → Int32)) (r : (Nat → Nat → Int32)), c1 x4 I = some r → tt (d + 3) me_48 bk_48_1 [some (.ref 79), none, some (.ref 74), some (.ref 67), some (.int x4), none] [] (cw κ cs I J W) (.inl none) (cw κ cs r J W)) (x4 : Int32) (I : (Nat → Nat → Int32)) (r : (Nat → Nat → Int32)) (h : bd_48_1  c1 x4 I = some r) : tt (d + 3) me_48 bk_48_1 [some (.ref 79), none, some (.ref 74), some (.ref 67), some (.int x4), none] [] (cw κ cs I J W) (.inl none) (cw κ cs r J W) :=
  tt_I (L1 := (bk_48_1.drop 4)) (L2 := bk_48_4) 4 [some (.ref 79), none, some (.ref 74), some (.ref 67), some (.int x4), none] [] (cw κ cs I J W) h (fun _ => rfl) (fun h =>
  tt_C (L1 := (bk_48_1.drop 8)) 4 [some (.ref 79), none, some (.ref 74), some (.ref 67), some (.int x4), none] [] (cw κ cs I J W) h (fun _ => rfl) (fun _ e => m_42 (d := d + 1) e) fun q7 h =>
  tt_J (L1 := bk_48_2) 1 [some (.ref 79), none, some (.ref 74), some (.ref 67), some (.int x4), some (.int (0 : Int32))] [] (cw κ cs q7 J W) (fun _ => rfl) (tt_F [some (.ref 79), none, some (.ref 74), some (.ref 67), some (.int x4), some (.int (0 : Int32))] (And.intro rfl (And.intro rfl (And.intro rfl (And.intro rfl (And.intro rfl trivial))))) (tl_48_2 c1 k1 x4 (0 : Int32) q7 _ h))) (fun h =>
  tt_R 1 (fun r => (.inl none)) (fun r => (cw κ cs r J W)) h (fun _ => rfl))
theorem tn_48_1 {d : Nat} {κ : Nat × Option Nat} {cs : Nat × Nat} {J : Nat → Nat → Int64} {W : Nat} : ∀ (n : Nat) (x4 : Int32) (I : (Nat → Nat → Int32)) (r : (Nat → Nat → Int32)), fx (fun _ _ => none) (bd_48_1 ) n x4 I = some r → tt (d + 3) me_48 bk_48_1 [some (.ref 79), none, some (.ref 74), some (.ref 67), some (.int x4), none] [] (cw κ cs I J W) (.inl none) (cw κ cs r J W)
  | 0 => fun _ _ _ h => nomatch h
  | n + 1 => fun x4 I r h => tb_48_1  (fx _ (bd_48_1 ) n) (tn_48_1  n) x4 I r h
theorem tl_48_1 {d : Nat} {κ : Nat × Option Nat} {cs : Nat × Nat} {J : Nat → Nat → Int64} {W : Nat} (x4 : Int32) (I : (Nat → Nat → Int32)) (r : (Nat → Nat → Int32)) (h : lb_48_1  x4 I = some r) : tt (d + 3) me_48 bk_48_1 [some (.ref 79), none, some (.ref 74), some (.ref 67), some (.int x4), none] [] (cw κ cs I J W) (.inl none) (cw κ cs r J W) := tn_48_1  FU x4 I r h
theorem m_48 {d : Nat} {κ : Nat × Option Nat} {cs : Nat × Nat} {J : Nat → Nat → Int64} {W : Nat} {I : (Nat → Nat → Int32)} {r : (Nat → Nat → Int32)} (h : f_48  I = some r) : tm (d + 3) 48 [.ref 79, .ref 62, .ref 74] (cw κ cs I J W) (.inl none) (cw κ cs r J W) :=
  tm_of me_48 rfl (Nat.le_of_ble_eq_true rfl) (
  let I1 := up I 79 9 (I 79 8)
  let I2 := cpyf I1 65 80 8
  tt_K (L1 := (bk_48_0.drop 9)) 9 [some (.ref 79), some (.ref 62), some (.ref 74), none, none, none] [] (cw κ cs I1 J W) (fun _ => rfl) (m_copy 65 8 80 8 (Nat.le_of_ble_eq_true rfl) (Nat.le_of_ble_eq_true rfl) rfl rfl (Nat.le_of_ble_eq_true rfl))
  (let I3 := cpyf I2 66 81 8
  tt_K (L1 := (bk_48_0.drop 14)) 5 [some (.ref 79), some (.ref 62), some (.ref 74), none, none, none] [] (cw κ cs I2 J W) (fun _ => rfl) (m_copy 66 8 81 8 (Nat.le_of_ble_eq_true rfl) (Nat.le_of_ble_eq_true rfl) rfl rfl (Nat.le_of_ble_eq_true rfl))
  (tt_C (L1 := (bk_48_0.drop 22)) 8 [some (.ref 79), some (.ref 62), some (.ref 74), some (.ref 67), none, none] [] (cw κ cs I3 J W) (show ((f_42 ((-2) : Int32) (I3 79 7) I3).bind fun q4 => ((f_42 ((-3) : Int32) (q4 79 5) q4).bind fun q5 => ((f_42 ((-4) : Int32) (q5 79 4) q5).bind fun q6 => (lb_48_1  (0 : Int32) q6)))) = some r from h) (fun _ => rfl) (fun _ e => m_42 (d := d + 1) e) fun q4 h =>
  tt_C (L1 := (bk_48_0.drop 27)) 5 [some (.ref 79), some (.ref 62), some (.ref 74), some (.ref 67), none, none] [] (cw κ cs q4 J W) h (fun _ => rfl) (fun _ e => m_42 (d := d + 1) e) fun q5 h =>
  tt_C (L1 := (bk_48_0.drop 32)) 5 [some (.ref 79), some (.ref 62), some (.ref 74), some (.ref 67), none, none] [] (cw κ cs q5 J W) h (fun _ => rfl) (fun _ e => m_42 (d := d + 1) e) fun q6 h =>
  tt_J (L1 := bk_48_1) 1 [some (.ref 79), some (.ref 62), some (.ref 74), some (.ref 67), some (.int (0 : Int32)), none] [] (cw κ cs q6 J W) (fun _ => rfl) (tt_F [some (.ref 79), none, some (.ref 74), some (.ref 67), some (.int (0 : Int32)), none] (And.intro rfl (And.intro rfl (And.intro rfl (And.intro rfl trivial)))) (tl_48_1  (0 : Int32) q6 _ h)))))
/- 47 -/
def bd_47_3 (c3 : Int32 → (Nat → Nat → Int32) → Option (Nat → Nat → Int32)) (x3 : Int32) (I : (Nat → Nat → Int32)) : Option (Nat → Nat → Int32) :=
  (if x3 < (I 79 9) then ((f_50 x3 I).bind fun q8 => (c3 (x3 + (1 : Int32)) q8)) else (some I))
def lb_47_3 : Int32 → (Nat → Nat → Int32) → Option (Nat → Nat → Int32) := fx (fun _ _ => none) (bd_47_3 ) FU
def lb_47_2 (I : (Nat → Nat → Int32)) : Option (Nat → Nat → Int32) :=
  (lb_47_3  (0 : Int32) I)
def f_47 (I : (Nat → Nat → Int32)) : Option (Nat → Nat → Int32) :=
  (let I1 := up I 79 4 (atf (I 63) 4 (0 : Int32))
  (let I2 := up I1 79 5 (atf (I1 63) 4 (1 : Int32))
  (let I3 := up I2 79 6 (atf (I2 63) 4 (2 : Int32))
  (let I4 := up I3 79 7 (atf (I3 63) 4 (3 : Int32))
  (let I5 := up I4 79 8 (I4 62 6)
  ((f_1 (I5 79 4) (I5 79 5) I5).bind fun q6 => (if 0 < (q6 79 8) then ((f_48  q6).bind fun q9 => (lb_47_2   q9)) else ((f_49  q6).bind fun q7 => (lb_47_2   q7)))))))))
theorem tb_47_3 {d : Nat} {κ : Nat × Option Nat} {cs : Nat × Nat} {J : Nat → Nat → Int64} {W : Nat} (c3 : Int32 → (Nat → Nat → Int32) → Option (Nat → Nat → Int32)) (k3 : ∀ (x3 : Int32) (I : (Nat → Nat → Int32)) (r : (Nat → Nat → Int32)), c3 x3 I = some r → tt (d + 4) me_47 bk_47_3 [some (.ref 79), none, some (.ref 74), some (.int x3)] [] (cw κ cs I J W) (.inl none) (cw κ cs r J W)) (x3 : Int32) (I : (Nat → Nat → Int32)) (r : (Nat → Nat → Int32)) (h : bd_47_3  c3 x3 I = some r) : tt (d + 4) me_47 bk_47_3 [some (.ref 79), none, some (.ref 74), some (.int x3)] [] (cw κ cs I J W) (.inl none) (cw κ cs r J W) :=
  tt_I (L1 := (bk_47_3.drop 4)) (L2 := bk_47_4) 4 [some (.ref 79), none, some (.ref 74), some (.int x3)] [] (cw κ cs I J W) h (fun _ => rfl) (fun h =>
  tt_C (L1 := (bk_47_3.drop 8)) 4 [some (.ref 79), none, some (.ref 74), some (.int x3)] [] (cw κ cs I J W) h (fun _ => rfl) (fun _ e => m_50 (d := d) e) fun q8 h =>
  tt_J (L1 := bk_47_3) 1 [some (.ref 79), none, some (.ref 74), some (.int (x3 + (1 : Int32)))] [] (cw κ cs q8 J W) (fun _ => rfl) (tt_F [some (.ref 79), none, some (.ref 74), some (.int (x3 + (1 : Int32)))] (And.intro rfl (And.intro rfl (And.intro rfl trivial))) (k3 (x3 + (1 : Int32)) q8 _ h))) (fun h =>
  tt_R 1 (fun r => (.inl none)) (fun r => (cw κ cs r J W)) h (fun _ => rfl))
theorem tn_47_3 {d : Nat} {κ : Nat × Option Nat} {cs : Nat × Nat} {J : Nat → Nat → Int64} {W : Nat} : ∀ (n : Nat) (x3 : Int32) (I : (Nat → Nat → Int32)) (r : (Nat → Nat → Int32)), fx (fun _ _ => none) (bd_47_3 ) n x3 I = some r → tt (d + 4) me_47 bk_47_3 [some (.ref 79), none, some (.ref 74), some (.int x3)] [] (cw κ cs I J W) (.inl none) (cw κ cs r J W)
  | 0 => fun _ _ _ h => nomatch h
  | n + 1 => fun x3 I r h => tb_47_3  (fx _ (bd_47_3 ) n) (tn_47_3  n) x3 I r h
theorem tl_47_3 {d : Nat} {κ : Nat × Option Nat} {cs : Nat × Nat} {J : Nat → Nat → Int64} {W : Nat} (x3 : Int32) (I : (Nat → Nat → Int32)) (r : (Nat → Nat → Int32)) (h : lb_47_3  x3 I = some r) : tt (d + 4) me_47 bk_47_3 [some (.ref 79), none, some (.ref 74), some (.int x3)] [] (cw κ cs I J W) (.inl none) (cw κ cs r J W) := tn_47_3  FU x3 I r h
theorem tl_47_2 {d : Nat} {κ : Nat × Option Nat} {cs : Nat × Nat} {J : Nat → Nat → Int64} {W : Nat} (I : (Nat → Nat → Int32)) (r : (Nat → Nat → Int32)) (h : lb_47_2   I = some r) : tt (d + 4) me_47 bk_47_2 [some (.ref 79), none, some (.ref 74), none] [] (cw κ cs I J W) (.inl none) (cw κ cs r J W) :=
  tt_J (L1 := bk_47_3) 1 [some (.ref 79), none, some (.ref 74), some (.int (0 : Int32))] [] (cw κ cs I J W) (fun _ => rfl) (tt_F [some (.ref 79), none, some (.ref 74), some (.int (0 : Int32))] (And.intro rfl (And.intro rfl (And.intro rfl trivial))) (tl_47_3  (0 : Int32) I _ h))
theorem m_47 {d : Nat} {κ : Nat × Option Nat} {cs : Nat × Nat} {J : Nat → Nat → Int64} {W : Nat} {I : (Nat → Nat → Int32)} {r : (Nat → Nat → Int32)} (h : f_47  I = some r) : tm (d + 4) 47 [.ref 79, .ref 62, .ref 74] (cw κ cs I J W) (.inl none) (cw κ cs r J W) :=
  tm_of me_47 rfl (Nat.le_of_ble_eq_true rfl) (
  tt_K (L1 := (bk_47_0.drop 5)) 5 [some (.ref 79), some (.ref 62), some (.ref 74), none] [.ref 79] (cw κ cs I J W) (fun _ => rfl) (m_at 63 4 (0 : Int32) (Nat.le_of_ble_eq_true rfl) rfl)
  (let I1 := up I 79 4 (atf (I 63) 4 (0 : Int32))
  tt_K (L1 := (bk_47_0.drop 11)) 6 [some (.ref 79), some (.ref 62), some (.ref 74), none] [.ref 79] (cw κ cs I1 J W) (fun _ => rfl) (m_at 63 4 (1 : Int32) (Nat.le_of_ble_eq_true rfl) rfl)
  (let I2 := up I1 79 5 (atf (I1 63) 4 (1 : Int32))
  tt_K (L1 := (bk_47_0.drop 17)) 6 [some (.ref 79), some (.ref 62), some (.ref 74), none] [.ref 79] (cw κ cs I2 J W) (fun _ => rfl) (m_at 63 4 (2 : Int32) (Nat.le_of_ble_eq_true rfl) rfl)
  (let I3 := up I2 79 6 (atf (I2 63) 4 (2 : Int32))
  tt_K (L1 := (bk_47_0.drop 23)) 6 [some (.ref 79), some (.ref 62), some (.ref 74), none] [.ref 79] (cw κ cs I3 J W) (fun _ => rfl) (m_at 63 4 (3 : Int32) (Nat.le_of_ble_eq_true rfl) rfl)
  (let I4 := up I3 79 7 (atf (I3 63) 4 (3 : Int32))
  let I5 := up I4 79 8 (I4 62 6)
  tt_C (L1 := (bk_47_0.drop 34)) 11 [some (.ref 79), some (.ref 62), some (.ref 74), none] [] (cw κ cs I5 J W) (show ((f_1 (I5 79 4) (I5 79 5) I5).bind fun q6 => (if 0 < (q6 79 8) then ((f_48  q6).bind fun q9 => (lb_47_2   q9)) else ((f_49  q6).bind fun q7 => (lb_47_2   q7)))) = some r from h) (fun _ => rfl) (fun _ e => m_1 (d := d) e) fun q6 h =>
  tt_I (L1 := (bk_47_0.drop 37)) (L2 := bk_47_1) 3 [some (.ref 79), some (.ref 62), some (.ref 74), none] [] (cw κ cs q6 J W) h (fun _ => rfl) (fun h =>
  tt_C (L1 := (bk_47_0.drop 41)) 4 [some (.ref 79), some (.ref 62), some (.ref 74), none] [] (cw κ cs q6 J W) h (fun _ => rfl) (fun _ e => m_48 (d := d) e) fun q9 h =>
  tt_J (L1 := bk_47_2) 0 [some (.ref 79), some (.ref 62), some (.ref 74), none] [] (cw κ cs q9 J W) (fun _ => rfl) (tt_F [some (.ref 79), none, some (.ref 74), none] (And.intro rfl (And.intro rfl trivial)) (tl_47_2   q9 _ h))) (fun h =>
  tt_C (L1 := bk_47_2) 2 [some (.ref 79), some (.ref 62), some (.ref 74), none] [] (cw κ cs q6 J W) h (fun _ => rfl) (fun _ e => m_49 (d := d + 2) e) fun q7 h =>
  tt_F [some (.ref 79), none, some (.ref 74), none] (And.intro rfl (And.intro rfl trivial)) (tl_47_2   q7 _ h)))))))
/- 114 -/
def f_114 (I : (Nat → Nat → Int32)) : Option (Nat → Nat → Int32) :=
  ((f_47  I).bind fun q1 => ((f_60  q1).bind fun q2 => (let I3 := up q2 84 6 (0 : Int32)
  (let I4 := up I3 58 9 (0 : Int32)
  (some I4)))))
theorem m_114 {d : Nat} {κ : Nat × Option Nat} {cs : Nat × Nat} {J : Nat → Nat → Int64} {W : Nat} {I : (Nat → Nat → Int32)} {r : (Nat → Nat → Int32)} (h : f_114  I = some r) : tm (d + 5) 114 [.ref 58] (cw κ cs I J W) (.inl none) (cw κ cs r J W) :=
  tm_of me_114 rfl (Nat.le_of_ble_eq_true rfl) (
  tt_C (L1 := (bk_114_0.drop 7)) 7 [some (.ref 58)] [] (cw κ cs I J W) h (fun _ => rfl) (fun _ e => m_47 (d := d) e) fun q1 h =>
  tt_C (L1 := (bk_114_0.drop 10)) 3 [some (.ref 58)] [] (cw κ cs q1 J W) h (fun _ => rfl) (fun _ e => m_60 (d := d + 2) e) fun q2 h =>
  let I3 := up q2 84 6 (0 : Int32)
  let I4 := up I3 58 9 (0 : Int32)
  tt_R 8 (fun r => (.inl none)) (fun r => (cw κ cs r J W)) h (fun _ => rfl))
/- 131 -/
def f_131 (I : (Nat → Nat → Int32)) : Option Int32 :=
  (some (I 97 0))
theorem m_131 {d : Nat} {κ : Nat × Option Nat} {cs : Nat × Nat} {J : Nat → Nat → Int64} {W : Nat} {I : (Nat → Nat → Int32)} {r : Int32} (h : f_131  I = some r) : tm d 131 [.ref 97] (cw κ cs I J W) (.inl (some (.int r))) (cw κ cs I J W) :=
  tm_of me_131 rfl (Nat.le_of_ble_eq_true rfl) (
  tt_R 3 (fun r => (.inl (some (.int r)))) (fun r => (cw κ cs I J W)) h (fun _ => rfl))
/- 132 -/
def lb_132_3 (s0 : Int32) (I : (Nat → Nat → Int32)) : Option (Int32 × (Nat → Nat → Int32)) :=
  (if (s0 = 0 ∨ s0 = 1) then some (s0, I) else none)
def lb_132_1 (I : (Nat → Nat → Int32)) : Option (Int32 × (Nat → Nat → Int32)) :=
  (if (I 97 0) = 0 then (lb_132_3  (1 : Int32) I) else (lb_132_3  (0 : Int32) I))
def f_132 (x1 : Int32) (x2 : Int32) (I : (Nat → Nat → Int32)) : Option (Int32 × (Nat → Nat → Int32)) :=
  (if (I 97 0) = 0 then (if x1 = 0 then (let I1 := up I 97 0 x2
  (lb_132_1   I1)) else (lb_132_1   I)) else (lb_132_1   I))
theorem tl_132_3 {d : Nat} {κ : Nat × Option Nat} {cs : Nat × Nat} {J : Nat → Nat → Int64} {W : Nat} (s0 : Int32) (I : (Nat → Nat → Int32)) (r : (Int32 × (Nat → Nat → Int32))) (h : lb_132_3  s0 I = some r) : tt d me_132 bk_132_3 [none, none, none] [.int s0] (cw κ cs I J W) (.inl (some (.int r.1))) (cw κ cs r.2 J W) :=
  tt_B 1 (fun r => (.inl (some (.int r.1)))) (fun r => (cw κ cs r.2 J W)) h (fun q => Or.inr (Or.inl ⟨rfl, q⟩)) (fun _ => rfl)
theorem tl_132_1 {d : Nat} {κ : Nat × Option Nat} {cs : Nat × Nat} {J : Nat → Nat → Int64} {W : Nat} (I : (Nat → Nat → Int32)) (r : (Int32 × (Nat → Nat → Int32))) (h : lb_132_1   I = some r) : tt d me_132 bk_132_1 [some (.ref 97), none, none] [] (cw κ cs I J W) (.inl (some (.int r.1))) (cw κ cs r.2 J W) :=
  tt_I (L1 := (bk_132_1.drop 3)) (L2 := bk_132_2) 3 [some (.ref 97), none, none] [] (cw κ cs I J W) h (fun _ => rfl) (fun h =>
  tt_J (L1 := bk_132_3) 1 [some (.ref 97), none, none] [.int (1 : Int32)] (cw κ cs I J W) (fun _ => rfl) (tt_F [none, none, none] trivial (tl_132_3  (1 : Int32) I _ h))) (fun h =>
  tt_J (L1 := bk_132_3) 0 [some (.ref 97), none, none] [.int (0 : Int32)] (cw κ cs I J W) (fun _ => rfl) (tt_F [none, none, none] trivial (tl_132_3  (0 : Int32) I _ h)))
theorem m_132 {d : Nat} {κ : Nat × Option Nat} {cs : Nat × Nat} {J : Nat → Nat → Int64} {W : Nat} {x1 : Int32} {x2 : Int32} {I : (Nat → Nat → Int32)} {r : (Int32 × (Nat → Nat → Int32))} (h : f_132 x1 x2 I = some r) : tm d 132 [.ref 97, .int x1, .int x2] (cw κ cs I J W) (.inl (some (.int r.1))) (cw κ cs r.2 J W) :=
  tm_of me_132 rfl (Nat.le_of_ble_eq_true rfl) (
  tt_I (L1 := (bk_132_0.drop 3)) (L2 := bk_132_1) 3 [some (.ref 97), some (.int x1), some (.int x2)] [] (cw κ cs I J W) h (fun _ => rfl) (fun h =>
  tt_I (L1 := (bk_132_0.drop 5)) (L2 := bk_132_1) 2 [some (.ref 97), some (.int x1), some (.int x2)] [] (cw κ cs I J W) h (fun _ => rfl) (fun h =>
  let I1 := up I 97 0 x2
  tt_J (L1 := bk_132_1) 2 [some (.ref 97), some (.int x1), some (.int x2)] [] (cw κ cs I1 J W) (fun _ => rfl) (tt_F [some (.ref 97), none, none] (And.intro rfl trivial) (tl_132_1   I1 _ h))) (fun h =>
  tt_F [some (.ref 97), none, none] (And.intro rfl trivial) (tl_132_1   I _ h))) (fun h =>
  tt_F [some (.ref 97), none, none] (And.intro rfl trivial) (tl_132_1   I _ h)))
/- 133 -/
def lb_133_2 (s0 : Int32) : Option Int32 :=
  (if (s0 = 0 ∨ s0 = 1) then some s0 else none)
def lb_133_1 : Option Int32 :=
  (lb_133_2  (0 : Int32) )
def f_133 (x0 : Int32) (x1 : Int32) (x2 : Int32) : Option Int32 :=
  (if x0 < x1 then (lb_133_1   ) else (if x2 < x0 then (lb_133_1   ) else (lb_133_2  (1 : Int32) )))
theorem tl_133_2 {d : Nat} {κ : Nat × Option Nat} {cs : Nat × Nat} {I : Nat → Nat → Int32} {J : Nat → Nat → Int64} {W : Nat} (s0 : Int32) (r : Int32) (h : lb_133_2  s0  = some r) : tt d me_133 bk_133_2 [none, none, none] [.int s0] (cw κ cs I J W) (.inl (some (.int r))) (cw κ cs I J W) :=
  tt_B 1 (fun r => (.inl (some (.int r)))) (fun r => (cw κ cs I J W)) h (fun q => Or.inr (Or.inl ⟨rfl, q⟩)) (fun _ => rfl)
theorem tl_133_1 {d : Nat} {κ : Nat × Option Nat} {cs : Nat × Nat} {I : Nat → Nat → Int32} {J : Nat → Nat → Int64} {W : Nat} (r : Int32) (h : lb_133_1    = some r) : tt d me_133 bk_133_1 [none, none, none] [] (cw κ cs I J W) (.inl (some (.int r))) (cw κ cs I J W) :=
  tt_J (L1 := bk_133_2) 0 [none, none, none] [.int (0 : Int32)] (cw κ cs I J W) (fun _ => rfl) (tt_F [none, none, none] trivial (tl_133_2  (0 : Int32)  _ h))
theorem m_133 {d : Nat} {κ : Nat × Option Nat} {cs : Nat × Nat} {I : Nat → Nat → Int32} {J : Nat → Nat → Int64} {W : Nat} {x0 : Int32} {x1 : Int32} {x2 : Int32} {r : Int32} (h : f_133 x0 x1 x2  = some r) : tm d 133 [.int x0, .int x1, .int x2] (cw κ cs I J W) (.inl (some (.int r))) (cw κ cs I J W) :=
  tm_of me_133 rfl (Nat.le_of_ble_eq_true rfl) (
  tt_I (L1 := bk_133_1) (L2 := (bk_133_0.drop 3)) 3 [some (.int x0), some (.int x1), some (.int x2)] [] (cw κ cs I J W) h (fun _ => rfl) (fun h =>
  tt_F [none, none, none] trivial (tl_133_1    _ h)) (fun h =>
  tt_I (L1 := bk_133_1) (L2 := (bk_133_0.drop 6)) 3 [some (.int x0), some (.int x1), some (.int x2)] [] (cw κ cs I J W) h (fun _ => rfl) (fun h =>
  tt_F [none, none, none] trivial (tl_133_1    _ h)) (fun h =>
  tt_J (L1 := bk_133_2) 1 [some (.int x0), some (.int x1), some (.int x2)] [.int (1 : Int32)] (cw κ cs I J W) (fun _ => rfl) (tt_F [none, none, none] trivial (tl_133_2  (1 : Int32)  _ h)))))
/- 136 -/
def bd_136_1 (c1 : Int32 → Int32 → (Nat → Nat → Int32) → Option (Nat → Nat → Int32)) (x1 : Int32) (x2 : Int32) (I : (Nat → Nat → Int32)) : Option (Nat → Nat → Int32) :=
  (if x2 < 0 then (some I) else (if ex_in (I 97 11) 500 then let I1 := up I 102 ((I 97 11)).toNatClampNeg ((x1 >>> (x2 &&& 31)) &&& (255 : Int32))
  (let I2 := up I1 97 11 ((I1 97 11) + (1 : Int32))
  (c1 x1 (x2 + ((-8) : Int32)) I2)) else none))
def lb_136_1 : Int32 → Int32 → (Nat → Nat → Int32) → Option (Nat → Nat → Int32) := fx (fun _ _ _ => none) (bd_136_1 ) FU
def f_136 (x1 : Int32) (I : (Nat → Nat → Int32)) : Option (Nat → Nat → Int32) :=
  (lb_136_1  x1 (24 : Int32) I)
theorem tb_136_1 {d : Nat} {κ : Nat × Option Nat} {cs : Nat × Nat} {J : Nat → Nat → Int64} {W : Nat} (c1 : Int32 → Int32 → (Nat → Nat → Int32) → Option (Nat → Nat → Int32)) (k1 : ∀ (x1 : Int32) (x2 : Int32) (I : (Nat → Nat → Int32)) (r : (Nat → Nat → Int32)), c1 x1 x2 I = some r → tt d me_136 bk_136_1 [some (.ref 97), some (.int x1), some (.int x2)] [] (cw κ cs I J W) (.inl none) (cw κ cs r J W)) (x1 : Int32) (x2 : Int32) (I : (Nat → Nat → Int32)) (r : (Nat → Nat → Int32)) (h : bd_136_1  c1 x1 x2 I = some r) : tt d me_136 bk_136_1 [some (.ref 97), some (.int x1), some (.int x2)] [] (cw κ cs I J W) (.inl none) (cw κ cs r J W) :=
  tt_I (L1 := bk_136_2) (L2 := (bk_136_1.drop 2)) 2 [some (.ref 97), some (.int x1), some (.int x2)] [] (cw κ cs I J W) h (fun _ => rfl) (fun h =>
  tt_R 1 (fun r => (.inl none)) (fun r => (cw κ cs r J W)) h (fun _ => rfl)) (fun h =>
  let I1 := up I 102 ((I 97 11)).toNatClampNeg ((x1 >>> (x2 &&& 31)) &&& (255 : Int32))
  tt_J (L1 := (bk_136_1.drop 11)) 8 [some (.ref 97), some (.int x1), some (.int x2)] [.int ((x1 >>> (x2 &&& 31)) &&& (255 : Int32)), .int (I 97 11), .ref 102] (cw κ cs I J W) (fun _ => rfl) (
  tt_Wi rfl (Nat.le_of_ble_eq_true rfl) h fun h =>
  let I2 := up I1 97 11 ((I1 97 11) + (1 : Int32))
  tt_J (L1 := bk_136_1) 7 [some (.ref 97), some (.int x1), some (.int (x2 + ((-8) : Int32)))] [] (cw κ cs I2 J W) (fun _ => rfl) (tt_F [some (.ref 97), some (.int x1), some (.int (x2 + ((-8) : Int32)))] (And.intro rfl (And.intro rfl (And.intro rfl trivial))) (k1 x1 (x2 + ((-8) : Int32)) I2 _ h))))
theorem tn_136_1 {d : Nat} {κ : Nat × Option Nat} {cs : Nat × Nat} {J : Nat → Nat → Int64} {W : Nat} : ∀ (n : Nat) (x1 : Int32) (x2 : Int32) (I : (Nat → Nat → Int32)) (r : (Nat → Nat → Int32)), fx (fun _ _ _ => none) (bd_136_1 ) n x1 x2 I = some r → tt d me_136 bk_136_1 [some (.ref 97), some (.int x1), some (.int x2)] [] (cw κ cs I J W) (.inl none) (cw κ cs r J W)
  | 0 => fun _ _ _ _ h => nomatch h
  | n + 1 => fun x1 x2 I r h => tb_136_1  (fx _ (bd_136_1 ) n) (tn_136_1  n) x1 x2 I r h
theorem tl_136_1 {d : Nat} {κ : Nat × Option Nat} {cs : Nat × Nat} {J : Nat → Nat → Int64} {W : Nat} (x1 : Int32) (x2 : Int32) (I : (Nat → Nat → Int32)) (r : (Nat → Nat → Int32)) (h : lb_136_1  x1 x2 I = some r) : tt d me_136 bk_136_1 [some (.ref 97), some (.int x1), some (.int x2)] [] (cw κ cs I J W) (.inl none) (cw κ cs r J W) := tn_136_1  FU x1 x2 I r h
theorem m_136 {d : Nat} {κ : Nat × Option Nat} {cs : Nat × Nat} {J : Nat → Nat → Int64} {W : Nat} {x1 : Int32} {I : (Nat → Nat → Int32)} {r : (Nat → Nat → Int32)} (h : f_136 x1 I = some r) : tm d 136 [.ref 97, .int x1] (cw κ cs I J W) (.inl none) (cw κ cs r J W) :=
  tm_of me_136 rfl (Nat.le_of_ble_eq_true rfl) (
  tt_J (L1 := bk_136_1) 1 [some (.ref 97), some (.int x1), some (.int (24 : Int32))] [] (cw κ cs I J W) (fun _ => rfl) (tt_F [some (.ref 97), some (.int x1), some (.int (24 : Int32))] (And.intro rfl (And.intro rfl (And.intro rfl trivial))) (tl_136_1  x1 (24 : Int32) I _ h)))
/- 135 -/
def f_135 (x1 : Int32) (x2 : Int32) (x3 : Int32) (x4 : Int32) (x5 : Int32) (I : (Nat → Nat → Int32)) : Option (Int32 × (Nat → Nat → Int32)) :=
  (let I1 := up I 97 0 (0 : Int32)
  (if (500 : Int32) < ((I1 97 11) + (20 : Int32)) then (some (((-1) : Int32), I1)) else ((f_136 x1 I1).bind fun q2 => ((f_136 x2 q2).bind fun q3 => ((f_136 x3 q3).bind fun q4 => ((f_136 x4 q4).bind fun q5 => ((f_136 x5 q5).bind fun q6 => (some ((q6 97 11), q6)))))))))
theorem m_135 {d : Nat} {κ : Nat × Option Nat} {cs : Nat × Nat} {J : Nat → Nat → Int64} {W : Nat} {x1 : Int32} {x2 : Int32} {x3 : Int32} {x4 : Int32} {x5 : Int32} {I : (Nat → Nat → Int32)} {r : (Int32 × (Nat → Nat → Int32))} (h : f_135 x1 x2 x3 x4 x5 I = some r) : tm (d + 1) 135 [.ref 97, .int x1, .int x2, .int x3, .int x4, .int x5] (cw κ cs I J W) (.inl (some (.int r.1))) (cw κ cs r.2 J W) :=
  tm_of me_135 rfl (Nat.le_of_ble_eq_true rfl) (
  let I1 := up I 97 0 (0 : Int32)
  tt_I (L1 := (bk_135_0.drop 9)) (L2 := bk_135_1) 9 [some (.ref 97), some (.int x1), some (.int x2), some (.int x3), some (.int x4), some (.int x5)] [] (cw κ cs I1 J W) h (fun _ => rfl) (fun h =>
  tt_R 2 (fun r => (.inl (some (.int r.1)))) (fun r => (cw κ cs r.2 J W)) h (fun _ => rfl)) (fun h =>
  tt_C (L1 := (bk_135_1.drop 3)) 3 [some (.ref 97), some (.int x1), some (.int x2), some (.int x3), some (.int x4), some (.int x5)] [] (cw κ cs I1 J W) h (fun _ => rfl) (fun _ e => m_136 (d := d) e) fun q2 h =>
  tt_C (L1 := (bk_135_1.drop 6)) 3 [some (.ref 97), some (.int x1), some (.int x2), some (.int x3), some (.int x4), some (.int x5)] [] (cw κ cs q2 J W) h (fun _ => rfl) (fun _ e => m_136 (d := d) e) fun q3 h =>
  tt_C (L1 := (bk_135_1.drop 9)) 3 [some (.ref 97), some (.int x1), some (.int x2), some (.int x3), some (.int x4), some (.int x5)] [] (cw κ cs q3 J W) h (fun _ => rfl) (fun _ e => m_136 (d := d) e) fun q4 h =>
  tt_C (L1 := (bk_135_1.drop 12)) 3 [some (.ref 97), some (.int x1), some (.int x2), some (.int x3), some (.int x4), some (.int x5)] [] (cw κ cs q4 J W) h (fun _ => rfl) (fun _ e => m_136 (d := d) e) fun q5 h =>
  tt_C (L1 := (bk_135_1.drop 15)) 3 [some (.ref 97), some (.int x1), some (.int x2), some (.int x3), some (.int x4), some (.int x5)] [] (cw κ cs q5 J W) h (fun _ => rfl) (fun _ e => m_136 (d := d) e) fun q6 h =>
  tt_R 3 (fun r => (.inl (some (.int r.1)))) (fun r => (cw κ cs r.2 J W)) h (fun _ => rfl)))
/- 137 -/
def lb_137_2 (s0 : Int32) (I : (Nat → Nat → Int32)) : Option Int32 :=
  (some s0)
def f_137 (x1 : Int32) (I : (Nat → Nat → Int32)) : Option Int32 :=
  (if x1 < (I 97 15) then (if ex_in x1 500 then (lb_137_2  (I 102 (x1).toNatClampNeg) I) else none) else (lb_137_2  (0 : Int32) I))
theorem tl_137_2 {d : Nat} {κ : Nat × Option Nat} {cs : Nat × Nat} {J : Nat → Nat → Int64} {W : Nat} (s0 : Int32) (I : (Nat → Nat → Int32)) (r : Int32) (h : lb_137_2  s0 I = some r) : tt d me_137 bk_137_2 [none, none] [.int s0] (cw κ cs I J W) (.inl (some (.int r))) (cw κ cs I J W) :=
  tt_R 1 (fun r => (.inl (some (.int r)))) (fun r => (cw κ cs I J W)) h (fun _ => rfl)
theorem m_137 {d : Nat} {κ : Nat × Option Nat} {cs : Nat × Nat} {J : Nat → Nat → Int64} {W : Nat} {x1 : Int32} {I : (Nat → Nat → Int32)} {r : Int32} (h : f_137 x1 I = some r) : tm d 137 [.ref 97, .int x1] (cw κ cs I J W) (.inl (some (.int r))) (cw κ cs I J W) :=
  tm_of me_137 rfl (Nat.le_of_ble_eq_true rfl) (
  tt_I (L1 := (bk_137_0.drop 4)) (L2 := bk_137_1) 4 [some (.ref 97), some (.int x1)] [] (cw κ cs I J W) h (fun _ => rfl) (fun h =>
  tt_J (L1 := (bk_137_0.drop 7)) 2 [some (.ref 97), some (.int x1)] [.int x1, .ref 102] (cw κ cs I J W) (fun _ => rfl) (
  tt_Qi rfl h fun h =>
  tt_J (L1 := bk_137_2) 0 [some (.ref 97), some (.int x1)] [.int (I 102 (x1).toNatClampNeg)] (cw κ cs I J W) (fun _ => rfl) (tt_F [none, none] trivial (tl_137_2  (I 102 (x1).toNatClampNeg) I _ h)))) (fun h =>
  tt_J (L1 := bk_137_2) 0 [some (.ref 97), some (.int x1)] [.int (0 : Int32)] (cw κ cs I J W) (fun _ => rfl) (tt_F [none, none] trivial (tl_137_2  (0 : Int32) I _ h))))
/- 138 -/
def lb_138_2 (s0 : Int32) : Option Int32 :=
  (if (s0 = 0 ∨ s0 = 1) then some s0 else none)
def lb_138_1 : Option Int32 :=
  (lb_138_2  (0 : Int32) )
def f_138 (x0 : Int32) : Option Int32 :=
  (if x0 < (97 : Int32) then (lb_138_1   ) else (if (122 : Int32) < x0 then (lb_138_1   ) else (lb_138_2  (1 : Int32) )))
theorem tl_138_2 {d : Nat} {κ : Nat × Option Nat} {cs : Nat × Nat} {I : Nat → Nat → Int32} {J : Nat → Nat → Int64} {W : Nat} (s0 : Int32) (r : Int32) (h : lb_138_2  s0  = some r) : tt d me_138 bk_138_2 [none] [.int s0] (cw κ cs I J W) (.inl (some (.int r))) (cw κ cs I J W) :=
  tt_B 1 (fun r => (.inl (some (.int r)))) (fun r => (cw κ cs I J W)) h (fun q => Or.inr (Or.inl ⟨rfl, q⟩)) (fun _ => rfl)
theorem tl_138_1 {d : Nat} {κ : Nat × Option Nat} {cs : Nat × Nat} {I : Nat → Nat → Int32} {J : Nat → Nat → Int64} {W : Nat} (r : Int32) (h : lb_138_1    = some r) : tt d me_138 bk_138_1 [none] [] (cw κ cs I J W) (.inl (some (.int r))) (cw κ cs I J W) :=
  tt_J (L1 := bk_138_2) 0 [none] [.int (0 : Int32)] (cw κ cs I J W) (fun _ => rfl) (tt_F [none] trivial (tl_138_2  (0 : Int32)  _ h))
theorem m_138 {d : Nat} {κ : Nat × Option Nat} {cs : Nat × Nat} {I : Nat → Nat → Int32} {J : Nat → Nat → Int64} {W : Nat} {x0 : Int32} {r : Int32} (h : f_138 x0  = some r) : tm d 138 [.int x0] (cw κ cs I J W) (.inl (some (.int r))) (cw κ cs I J W) :=
  tm_of me_138 rfl (Nat.le_of_ble_eq_true rfl) (
  tt_I (L1 := bk_138_1) (L2 := (bk_138_0.drop 3)) 3 [some (.int x0)] [] (cw κ cs I J W) h (fun _ => rfl) (fun h =>
  tt_F [none] trivial (tl_138_1    _ h)) (fun h =>
  tt_I (L1 := bk_138_1) (L2 := (bk_138_0.drop 6)) 3 [some (.int x0)] [] (cw κ cs I J W) h (fun _ => rfl) (fun h =>
  tt_F [none] trivial (tl_138_1    _ h)) (fun h =>
  tt_J (L1 := bk_138_2) 1 [some (.int x0)] [.int (1 : Int32)] (cw κ cs I J W) (fun _ => rfl) (tt_F [none] trivial (tl_138_2  (1 : Int32)  _ h)))))
/- 139 -/
def lb_139_2 (s0 : Int32) : Option Int32 :=
  (if (s0 = 0 ∨ s0 = 1) then some s0 else none)
def lb_139_1 : Option Int32 :=
  (lb_139_2  (0 : Int32) )
def f_139 (x0 : Int32) : Option Int32 :=
  (if x0 < (48 : Int32) then (lb_139_1   ) else (if (57 : Int32) < x0 then (lb_139_1   ) else (lb_139_2  (1 : Int32) )))
theorem tl_139_2 {d : Nat} {κ : Nat × Option Nat} {cs : Nat × Nat} {I : Nat → Nat → Int32} {J : Nat → Nat → Int64} {W : Nat} (s0 : Int32) (r : Int32) (h : lb_139_2  s0  = some r) : tt d me_139 bk_139_2 [none] [.int s0] (cw κ cs I J W) (.inl (some (.int r))) (cw κ cs I J W) :=
  tt_B 1 (fun r => (.inl (some (.int r)))) (fun r => (cw κ cs I J W)) h (fun q => Or.inr (Or.inl ⟨rfl, q⟩)) (fun _ => rfl)
theorem tl_139_1 {d : Nat} {κ : Nat × Option Nat} {cs : Nat × Nat} {I : Nat → Nat → Int32} {J : Nat → Nat → Int64} {W : Nat} (r : Int32) (h : lb_139_1    = some r) : tt d me_139 bk_139_1 [none] [] (cw κ cs I J W) (.inl (some (.int r))) (cw κ cs I J W) :=
  tt_J (L1 := bk_139_2) 0 [none] [.int (0 : Int32)] (cw κ cs I J W) (fun _ => rfl) (tt_F [none] trivial (tl_139_2  (0 : Int32)  _ h))
theorem m_139 {d : Nat} {κ : Nat × Option Nat} {cs : Nat × Nat} {I : Nat → Nat → Int32} {J : Nat → Nat → Int64} {W : Nat} {x0 : Int32} {r : Int32} (h : f_139 x0  = some r) : tm d 139 [.int x0] (cw κ cs I J W) (.inl (some (.int r))) (cw κ cs I J W) :=
  tm_of me_139 rfl (Nat.le_of_ble_eq_true rfl) (
  tt_I (L1 := bk_139_1) (L2 := (bk_139_0.drop 3)) 3 [some (.int x0)] [] (cw κ cs I J W) h (fun _ => rfl) (fun h =>
  tt_F [none] trivial (tl_139_1    _ h)) (fun h =>
  tt_I (L1 := bk_139_1) (L2 := (bk_139_0.drop 6)) 3 [some (.int x0)] [] (cw κ cs I J W) h (fun _ => rfl) (fun h =>
  tt_F [none] trivial (tl_139_1    _ h)) (fun h =>
  tt_J (L1 := bk_139_2) 1 [some (.int x0)] [.int (1 : Int32)] (cw κ cs I J W) (fun _ => rfl) (tt_F [none] trivial (tl_139_2  (1 : Int32)  _ h)))))
/- 140 -/
def lb_140_15 (I : (Nat → Nat → Int32)) (J : (Nat → Nat → Int64)) : Option ((Nat → Nat → Int32) × (Nat → Nat → Int64)) :=
  (let I10 := up I 97 19 ((I 97 16) - (I 97 18))
  (some (I10, J)))
def lb_140_14 (s1 : Int32) (I : (Nat → Nat → Int32)) (J : (Nat → Nat → Int64)) : Option ((Nat → Nat → Int32) × (Nat → Nat → Int64)) :=
  (let I9 := up I 97 17 s1
  (lb_140_15   I9 J))
def lb_140_12 (I : (Nat → Nat → Int32)) (J : (Nat → Nat → Int64)) : Option ((Nat → Nat → Int32) × (Nat → Nat → Int64)) :=
  (lb_140_14  (3 : Int32) I J)
def lb_140_9 (c8 : (Nat → Nat → Int32) → (Nat → Nat → Int64) → Option ((Nat → Nat → Int32) × (Nat → Nat → Int64))) (I : (Nat → Nat → Int32)) (J : (Nat → Nat → Int64)) : Option ((Nat → Nat → Int32) × (Nat → Nat → Int64)) :=
  (let I14 := up I 97 16 ((I 97 16) + (1 : Int32))
  (c8  I14 J))
def bd_140_8 (c8 : (Nat → Nat → Int32) → (Nat → Nat → Int64) → Option ((Nat → Nat → Int32) × (Nat → Nat → Int64))) (I : (Nat → Nat → Int32)) (J : (Nat → Nat → Int64)) : Option ((Nat → Nat → Int32) × (Nat → Nat → Int64)) :=
  ((f_137 (I 97 16) I).bind fun q11 => ((f_139 q11 ).bind fun q12 => (if q12 = 0 then (let I13 := up I 97 17 (2 : Int32)
  (lb_140_15   I13 J)) else (if ((I 97 16) - (I 97 18)) < (4 : Int32) then ((f_137 (I 97 16) I).bind fun q15 => (let I16 := up I 97 20 ((((10 : Int32) * (I 97 20)) + q15) - (48 : Int32))
  (lb_140_9 c8  I16 J))) else (lb_140_9 c8  I J)))))
def lb_140_8 : (Nat → Nat → Int32) → (Nat → Nat → Int64) → Option ((Nat → Nat → Int32) × (Nat → Nat → Int64)) := fx (fun _ _ => none) (bd_140_8 ) FU
def lb_140_5 (c4 : (Nat → Nat → Int32) → (Nat → Nat → Int64) → Option ((Nat → Nat → Int32) × (Nat → Nat → Int64))) (I : (Nat → Nat → Int32)) (J : (Nat → Nat → Int64)) : Option ((Nat → Nat → Int32) × (Nat → Nat → Int64)) :=
  (let I20 := up I 97 16 ((I 97 16) + (1 : Int32))
  (c4  I20 J))
def bd_140_4 (c4 : (Nat → Nat → Int32) → (Nat → Nat → Int64) → Option ((Nat → Nat → Int32) × (Nat → Nat → Int64))) (I : (Nat → Nat → Int32)) (J : (Nat → Nat → Int64)) : Option ((Nat → Nat → Int32) × (Nat → Nat → Int64)) :=
  ((f_137 (I 97 16) I).bind fun q17 => ((f_138 q17 ).bind fun q18 => (if q18 = 0 then (let I19 := up I 97 17 (1 : Int32)
  (lb_140_15   I19 J)) else (if ((I 97 16) - (I 97 18)) < (5 : Int32) then ((f_137 (I 97 16) I).bind fun q21 => (let J22 := up J 97 22 (((J 97 22) <<< (((5 : Int32)).toInt64 &&& 63)) ||| ((q21 - (96 : Int32))).toInt64)
  (lb_140_5 c4  I J22))) else (lb_140_5 c4  I J)))))
def lb_140_4 : (Nat → Nat → Int32) → (Nat → Nat → Int64) → Option ((Nat → Nat → Int32) × (Nat → Nat → Int64)) := fx (fun _ _ => none) (bd_140_4 ) FU
def lb_140_2 (I : (Nat → Nat → Int32)) (J : (Nat → Nat → Int64)) : Option ((Nat → Nat → Int32) × (Nat → Nat → Int64)) :=
  (let I1 := up I 97 18 (I 97 16)
  (let J2 := up J 97 22 (0 : Int64)
  (let I3 := up I1 97 20 (0 : Int32)
  ((f_137 (I3 97 16) I3).bind fun q4 => (let I5 := up I3 97 21 q4
  (if (I5 97 16) < (I5 97 15) then ((f_138 q4 ).bind fun q6 => (if q6 = 0 then ((f_139 q4 ).bind fun q7 => (if q7 = 0 then (let I8 := up I5 97 16 ((I5 97 16) + (1 : Int32))
  (if q4 = (59 : Int32) then (lb_140_12   I8 J2) else (if q4 = (40 : Int32) then (lb_140_12   I8 J2) else (if q4 = (41 : Int32) then (lb_140_12   I8 J2) else (if q4 = (43 : Int32) then (lb_140_12   I8 J2) else (if q4 = (45 : Int32) then (lb_140_12   I8 J2) else (if q4 = (42 : Int32) then (lb_140_12   I8 J2) else (if q4 = (47 : Int32) then (lb_140_12   I8 J2) else (if q4 = (60 : Int32) then (lb_140_12   I8 J2) else (if q4 = (61 : Int32) then (lb_140_12   I8 J2) else (lb_140_14  (4 : Int32) I8 J2))))))))))) else (lb_140_8   I5 J2))) else (lb_140_4   I5 J2))) else (let I23 := up I5 97 17 (0 : Int32)
  (lb_140_15   I23 J2))))))))
def lb_140_1 (c0 : (Nat → Nat → Int32) → (Nat → Nat → Int64) → Option ((Nat → Nat → Int32) × (Nat → Nat → Int64))) (I : (Nat → Nat → Int32)) (J : (Nat → Nat → Int64)) : Option ((Nat → Nat → Int32) × (Nat → Nat → Int64)) :=
  (let I25 := up I 97 16 ((I 97 16) + (1 : Int32))
  (c0  I25 J))
def bd_140_0 (c0 : (Nat → Nat → Int32) → (Nat → Nat → Int64) → Option ((Nat → Nat → Int32) × (Nat → Nat → Int64))) (I : (Nat → Nat → Int32)) (J : (Nat → Nat → Int64)) : Option ((Nat → Nat → Int32) × (Nat → Nat → Int64)) :=
  (if (I 97 16) < (I 97 15) then ((f_137 (I 97 16) I).bind fun q24 => (if q24 = (32 : Int32) then (lb_140_1 c0  I J) else ((f_137 (I 97 16) I).bind fun q26 => (if q26 = (10 : Int32) then (lb_140_1 c0  I J) else (lb_140_2   I J))))) else (lb_140_2   I J))
def lb_140_0 : (Nat → Nat → Int32) → (Nat → Nat → Int64) → Option ((Nat → Nat → Int32) × (Nat → Nat → Int64)) := fx (fun _ _ => none) (bd_140_0 ) FU
def f_140 (I : (Nat → Nat → Int32)) (J : (Nat → Nat → Int64)) : Option ((Nat → Nat → Int32) × (Nat → Nat → Int64)) :=
  (lb_140_0   I J)
theorem tl_140_15 {d : Nat} {κ : Nat × Option Nat} {cs : Nat × Nat} {W : Nat} (I : (Nat → Nat → Int32)) (J : (Nat → Nat → Int64)) (r : ((Nat → Nat → Int32) × (Nat → Nat → Int64))) (h : lb_140_15   I J = some r) : tt (d + 1) me_140 bk_140_15 [some (.ref 97), none] [] (cw κ cs I J W) (.inl none) (cw κ cs r.1 r.2 W) :=
  let I10 := up I 97 19 ((I 97 16) - (I 97 18))
  tt_R 8 (fun r => (.inl none)) (fun r => (cw κ cs r.1 r.2 W)) h (fun _ => rfl)
theorem tl_140_14 {d : Nat} {κ : Nat × Option Nat} {cs : Nat × Nat} {W : Nat} (s1 : Int32) (I : (Nat → Nat → Int32)) (J : (Nat → Nat → Int64)) (r : ((Nat → Nat → Int32) × (Nat → Nat → Int64))) (h : lb_140_14  s1 I J = some r) : tt (d + 1) me_140 bk_140_14 [some (.ref 97), none] [.int s1, .ref 97] (cw κ cs I J W) (.inl none) (cw κ cs r.1 r.2 W) :=
  let I9 := up I 97 17 s1
  tt_J (L1 := bk_140_15) 0 [some (.ref 97), none] [] (cw κ cs I9 J W) (fun _ => rfl) (tt_F [some (.ref 97), none] (And.intro rfl trivial) (tl_140_15   I9 J _ h))
theorem tl_140_12 {d : Nat} {κ : Nat × Option Nat} {cs : Nat × Nat} {W : Nat} (I : (Nat → Nat → Int32)) (J : (Nat → Nat → Int64)) (r : ((Nat → Nat → Int32) × (Nat → Nat → Int64))) (h : lb_140_12   I J = some r) : tt (d + 1) me_140 bk_140_12 [some (.ref 97), none] [.ref 97] (cw κ cs I J W) (.inl none) (cw κ cs r.1 r.2 W) :=
  tt_J (L1 := bk_140_14) 1 [some (.ref 97), none] [.int (3 : Int32), .ref 97] (cw κ cs I J W) (fun _ => rfl) (tt_F [some (.ref 97), none] (And.intro rfl trivial) (tl_140_14  (3 : Int32) I J _ h))
theorem tl_140_9 {d : Nat} {κ : Nat × Option Nat} {cs : Nat × Nat} {W : Nat} (c8 : (Nat → Nat → Int32) → (Nat → Nat → Int64) → Option ((Nat → Nat → Int32) × (Nat → Nat → Int64))) (k8 : ∀ (I : (Nat → Nat → Int32)) (J : (Nat → Nat → Int64)) (r : ((Nat → Nat → Int32) × (Nat → Nat → Int64))), c8  I J = some r → tt (d + 1) me_140 bk_140_8 [some (.ref 97), none] [] (cw κ cs I J W) (.inl none) (cw κ cs r.1 r.2 W)) (I : (Nat → Nat → Int32)) (J : (Nat → Nat → Int64)) (r : ((Nat → Nat → Int32) × (Nat → Nat → Int64))) (h : lb_140_9 c8  I J = some r) : tt (d + 1) me_140 bk_140_9 [some (.ref 97), none] [] (cw κ cs I J W) (.inl none) (cw κ cs r.1 r.2 W) :=
  let I14 := up I 97 16 ((I 97 16) + (1 : Int32))
  tt_J (L1 := bk_140_8) 6 [some (.ref 97), none] [] (cw κ cs I14 J W) (fun _ => rfl) (tt_F [some (.ref 97), none] (And.intro rfl trivial) (k8  I14 J _ h))
theorem tb_140_8 {d : Nat} {κ : Nat × Option Nat} {cs : Nat × Nat} {W : Nat} (c8 : (Nat → Nat → Int32) → (Nat → Nat → Int64) → Option ((Nat → Nat → Int32) × (Nat → Nat → Int64))) (k8 : ∀ (I : (Nat → Nat → Int32)) (J : (Nat → Nat → Int64)) (r : ((Nat → Nat → Int32) × (Nat → Nat → Int64))), c8  I J = some r → tt (d + 1) me_140 bk_140_8 [some (.ref 97), none] [] (cw κ cs I J W) (.inl none) (cw κ cs r.1 r.2 W)) (I : (Nat → Nat → Int32)) (J : (Nat → Nat → Int64)) (r : ((Nat → Nat → Int32) × (Nat → Nat → Int64))) (h : bd_140_8  c8  I J = some r) : tt (d + 1) me_140 bk_140_8 [some (.ref 97), none] [] (cw κ cs I J W) (.inl none) (cw κ cs r.1 r.2 W) :=
  tt_C (L1 := (bk_140_8.drop 4)) 4 [some (.ref 97), none] [] (cw κ cs I J W) h (fun _ => rfl) (fun _ e => m_137 (d := d) e) fun q11 h =>
  tt_C (L1 := (bk_140_8.drop 5)) 1 [some (.ref 97), none] [] (cw κ cs I J W) h (fun _ => rfl) (fun _ e => m_139 (d := d) e) fun q12 h =>
  tt_I (L1 := bk_140_10) (L2 := (bk_140_8.drop 6)) 1 [some (.ref 97), none] [] (cw κ cs I J W) h (fun _ => rfl) (fun h =>
  let I13 := up I 97 17 (2 : Int32)
  tt_J (L1 := bk_140_15) 3 [some (.ref 97), none] [] (cw κ cs I13 J W) (fun _ => rfl) (tt_F [some (.ref 97), none] (And.intro rfl trivial) (tl_140_15   I13 J _ h))) (fun h =>
  tt_I (L1 := (bk_140_8.drop 13)) (L2 := bk_140_9) 7 [some (.ref 97), none] [] (cw κ cs I J W) h (fun _ => rfl) (fun h =>
  tt_C (L1 := (bk_140_8.drop 22)) 9 [some (.ref 97), none] [.int ((10 : Int32) * (I 97 20)), .ref 97] (cw κ cs I J W) h (fun _ => rfl) (fun _ e => m_137 (d := d) e) fun q15 h =>
  let I16 := up I 97 20 ((((10 : Int32) * (I 97 20)) + q15) - (48 : Int32))
  tt_J (L1 := bk_140_9) 3 [some (.ref 97), none] [] (cw κ cs I16 J W) (fun _ => rfl) (tt_F [some (.ref 97), none] (And.intro rfl trivial) (tl_140_9 c8 k8  I16 J _ h))) (fun h =>
  tt_F [some (.ref 97), none] (And.intro rfl trivial) (tl_140_9 c8 k8  I J _ h)))
theorem tn_140_8 {d : Nat} {κ : Nat × Option Nat} {cs : Nat × Nat} {W : Nat} : ∀ (n : Nat) (I : (Nat → Nat → Int32)) (J : (Nat → Nat → Int64)) (r : ((Nat → Nat → Int32) × (Nat → Nat → Int64))), fx (fun _ _ => none) (bd_140_8 ) n  I J = some r → tt (d + 1) me_140 bk_140_8 [some (.ref 97), none] [] (cw κ cs I J W) (.inl none) (cw κ cs r.1 r.2 W)
  | 0 => fun _ _ _ h => nomatch h
  | n + 1 => fun  I J r h => tb_140_8  (fx _ (bd_140_8 ) n) (tn_140_8  n)  I J r h
theorem tl_140_8 {d : Nat} {κ : Nat × Option Nat} {cs : Nat × Nat} {W : Nat} (I : (Nat → Nat → Int32)) (J : (Nat → Nat → Int64)) (r : ((Nat → Nat → Int32) × (Nat → Nat → Int64))) (h : lb_140_8   I J = some r) : tt (d + 1) me_140 bk_140_8 [some (.ref 97), none] [] (cw κ cs I J W) (.inl none) (cw κ cs r.1 r.2 W) := tn_140_8  FU  I J r h
theorem tl_140_5 {d : Nat} {κ : Nat × Option Nat} {cs : Nat × Nat} {W : Nat} (c4 : (Nat → Nat → Int32) → (Nat → Nat → Int64) → Option ((Nat → Nat → Int32) × (Nat → Nat → Int64))) (k4 : ∀ (I : (Nat → Nat → Int32)) (J : (Nat → Nat → Int64)) (r : ((Nat → Nat → Int32) × (Nat → Nat → Int64))), c4  I J = some r → tt (d + 1) me_140 bk_140_4 [some (.ref 97), none] [] (cw κ cs I J W) (.inl none) (cw κ cs r.1 r.2 W)) (I : (Nat → Nat → Int32)) (J : (Nat → Nat → Int64)) (r : ((Nat → Nat → Int32) × (Nat → Nat → Int64))) (h : lb_140_5 c4  I J = some r) : tt (d + 1) me_140 bk_140_5 [some (.ref 97), none] [] (cw κ cs I J W) (.inl none) (cw κ cs r.1 r.2 W) :=
  let I20 := up I 97 16 ((I 97 16) + (1 : Int32))
  tt_J (L1 := bk_140_4) 6 [some (.ref 97), none] [] (cw κ cs I20 J W) (fun _ => rfl) (tt_F [some (.ref 97), none] (And.intro rfl trivial) (k4  I20 J _ h))
theorem tb_140_4 {d : Nat} {κ : Nat × Option Nat} {cs : Nat × Nat} {W : Nat} (c4 : (Nat → Nat → Int32) → (Nat → Nat → Int64) → Option ((Nat → Nat → Int32) × (Nat → Nat → Int64))) (k4 : ∀ (I : (Nat → Nat → Int32)) (J : (Nat → Nat → Int64)) (r : ((Nat → Nat → Int32) × (Nat → Nat → Int64))), c4  I J = some r → tt (d + 1) me_140 bk_140_4 [some (.ref 97), none] [] (cw κ cs I J W) (.inl none) (cw κ cs r.1 r.2 W)) (I : (Nat → Nat → Int32)) (J : (Nat → Nat → Int64)) (r : ((Nat → Nat → Int32) × (Nat → Nat → Int64))) (h : bd_140_4  c4  I J = some r) : tt (d + 1) me_140 bk_140_4 [some (.ref 97), none] [] (cw κ cs I J W) (.inl none) (cw κ cs r.1 r.2 W) :=
  tt_C (L1 := (bk_140_4.drop 4)) 4 [some (.ref 97), none] [] (cw κ cs I J W) h (fun _ => rfl) (fun _ e => m_137 (d := d) e) fun q17 h =>
  tt_C (L1 := (bk_140_4.drop 5)) 1 [some (.ref 97), none] [] (cw κ cs I J W) h (fun _ => rfl) (fun _ e => m_138 (d := d) e) fun q18 h =>
  tt_I (L1 := bk_140_6) (L2 := (bk_140_4.drop 6)) 1 [some (.ref 97), none] [] (cw κ cs I J W) h (fun _ => rfl) (fun h =>
  let I19 := up I 97 17 (1 : Int32)
  tt_J (L1 := bk_140_15) 3 [some (.ref 97), none] [] (cw κ cs I19 J W) (fun _ => rfl) (tt_F [some (.ref 97), none] (And.intro rfl trivial) (tl_140_15   I19 J _ h))) (fun h =>
  tt_I (L1 := (bk_140_4.drop 13)) (L2 := bk_140_5) 7 [some (.ref 97), none] [] (cw κ cs I J W) h (fun _ => rfl) (fun h =>
  tt_C (L1 := (bk_140_4.drop 22)) 9 [some (.ref 97), none] [.long ((J 97 22) <<< (((5 : Int32)).toInt64 &&& 63)), .ref 97] (cw κ cs I J W) h (fun _ => rfl) (fun _ e => m_137 (d := d) e) fun q21 h =>
  let J22 := up J 97 22 (((J 97 22) <<< (((5 : Int32)).toInt64 &&& 63)) ||| ((q21 - (96 : Int32))).toInt64)
  tt_J (L1 := bk_140_5) 4 [some (.ref 97), none] [] (cw κ cs I J22 W) (fun _ => rfl) (tt_F [some (.ref 97), none] (And.intro rfl trivial) (tl_140_5 c4 k4  I J22 _ h))) (fun h =>
  tt_F [some (.ref 97), none] (And.intro rfl trivial) (tl_140_5 c4 k4  I J _ h)))
theorem tn_140_4 {d : Nat} {κ : Nat × Option Nat} {cs : Nat × Nat} {W : Nat} : ∀ (n : Nat) (I : (Nat → Nat → Int32)) (J : (Nat → Nat → Int64)) (r : ((Nat → Nat → Int32) × (Nat → Nat → Int64))), fx (fun _ _ => none) (bd_140_4 ) n  I J = some r → tt (d + 1) me_140 bk_140_4 [some (.ref 97), none] [] (cw κ cs I J W) (.inl none) (cw κ cs r.1 r.2 W)
  | 0 => fun _ _ _ h => nomatch h
  | n + 1 => fun  I J r h => tb_140_4  (fx _ (bd_140_4 ) n) (tn_140_4  n)  I J r h
theorem tl_140_4 {d : Nat} {κ : Nat × Option Nat} {cs : Nat × Nat} {W : Nat} (I : (Nat → Nat → Int32)) (J : (Nat → Nat → Int64)) (r : ((Nat → Nat → Int32) × (Nat → Nat → Int64))) (h : lb_140_4   I J = some r) : tt (d + 1) me_140 bk_140_4 [some (.ref 97), none] [] (cw κ cs I J W) (.inl none) (cw κ cs r.1 r.2 W) := tn_140_4  FU  I J r h
theorem tl_140_2 {d : Nat} {κ : Nat × Option Nat} {cs : Nat × Nat} {W : Nat} (I : (Nat → Nat → Int32)) (J : (Nat → Nat → Int64)) (r : ((Nat → Nat → Int32) × (Nat → Nat → Int64))) (h : lb_140_2   I J = some r) : tt (d + 1) me_140 bk_140_2 [some (.ref 97), none] [] (cw κ cs I J W) (.inl none) (cw κ cs r.1 r.2 W) :=
  let I1 := up I 97 18 (I 97 16)
  let J2 := up J 97 22 (0 : Int64)
  let I3 := up I1 97 20 (0 : Int32)
  tt_C (L1 := (bk_140_2.drop 14)) 14 [some (.ref 97), none] [] (cw κ cs I3 J2 W) (show ((f_137 (I3 97 16) I3).bind fun q4 => (let I5 := up I3 97 21 q4
  (if (I5 97 16) < (I5 97 15) then ((f_138 q4 ).bind fun q6 => (if q6 = 0 then ((f_139 q4 ).bind fun q7 => (if q7 = 0 then (let I8 := up I5 97 16 ((I5 97 16) + (1 : Int32))
  (if q4 = (59 : Int32) then (lb_140_12   I8 J2) else (if q4 = (40 : Int32) then (lb_140_12   I8 J2) else (if q4 = (41 : Int32) then (lb_140_12   I8 J2) else (if q4 = (43 : Int32) then (lb_140_12   I8 J2) else (if q4 = (45 : Int32) then (lb_140_12   I8 J2) else (if q4 = (42 : Int32) then (lb_140_12   I8 J2) else (if q4 = (47 : Int32) then (lb_140_12   I8 J2) else (if q4 = (60 : Int32) then (lb_140_12   I8 J2) else (if q4 = (61 : Int32) then (lb_140_12   I8 J2) else (lb_140_14  (4 : Int32) I8 J2))))))))))) else (lb_140_8   I5 J2))) else (lb_140_4   I5 J2))) else (let I23 := up I5 97 17 (0 : Int32)
  (lb_140_15   I23 J2))))) = some r from h) (fun _ => rfl) (fun _ e => m_137 (d := d) e) fun q4 h =>
  let I5 := up I3 97 21 q4
  tt_I (L1 := bk_140_3) (L2 := (bk_140_2.drop 23)) 9 [some (.ref 97), some (.int q4)] [] (cw κ cs I5 J2 W) h (fun _ => rfl) (fun h =>
  tt_C (L1 := (bk_140_3.drop 2)) 2 [some (.ref 97), some (.int q4)] [] (cw κ cs I5 J2 W) h (fun _ => rfl) (fun _ e => m_138 (d := d) e) fun q6 h =>
  tt_I (L1 := bk_140_7) (L2 := bk_140_4) 1 [some (.ref 97), some (.int q4)] [] (cw κ cs I5 J2 W) h (fun _ => rfl) (fun h =>
  tt_C (L1 := (bk_140_7.drop 2)) 2 [some (.ref 97), some (.int q4)] [] (cw κ cs I5 J2 W) h (fun _ => rfl) (fun _ e => m_139 (d := d) e) fun q7 h =>
  tt_I (L1 := bk_140_11) (L2 := bk_140_8) 1 [some (.ref 97), some (.int q4)] [] (cw κ cs I5 J2 W) h (fun _ => rfl) (fun h =>
  let I8 := up I5 97 16 ((I5 97 16) + (1 : Int32))
  tt_I (L1 := bk_140_12) (L2 := (bk_140_11.drop 10)) 10 [some (.ref 97), some (.int q4)] [.ref 97] (cw κ cs I8 J2 W) h (fun _ => rfl) (fun h =>
  tt_F [some (.ref 97), none] (And.intro rfl trivial) (tl_140_12   I8 J2 _ h)) (fun h =>
  tt_I (L1 := bk_140_12) (L2 := (bk_140_11.drop 13)) 3 [some (.ref 97), some (.int q4)] [.ref 97] (cw κ cs I8 J2 W) h (fun _ => rfl) (fun h =>
  tt_F [some (.ref 97), none] (And.intro rfl trivial) (tl_140_12   I8 J2 _ h)) (fun h =>
  tt_I (L1 := bk_140_12) (L2 := (bk_140_11.drop 16)) 3 [some (.ref 97), some (.int q4)] [.ref 97] (cw κ cs I8 J2 W) h (fun _ => rfl) (fun h =>
  tt_F [some (.ref 97), none] (And.intro rfl trivial) (tl_140_12   I8 J2 _ h)) (fun h =>
  tt_I (L1 := bk_140_12) (L2 := (bk_140_11.drop 19)) 3 [some (.ref 97), some (.int q4)] [.ref 97] (cw κ cs I8 J2 W) h (fun _ => rfl) (fun h =>
  tt_F [some (.ref 97), none] (And.intro rfl trivial) (tl_140_12   I8 J2 _ h)) (fun h =>
  tt_I (L1 := bk_140_12) (L2 := (bk_140_11.drop 22)) 3 [some (.ref 97), some (.int q4)] [.ref 97] (cw κ cs I8 J2 W) h (fun _ => rfl) (fun h =>
  tt_F [some (.ref 97), none] (And.intro rfl trivial) (tl_140_12   I8 J2 _ h)) (fun h =>
  tt_I (L1 := bk_140_12) (L2 := (bk_140_11.drop 25)) 3 [some (.ref 97), some (.int q4)] [.ref 97] (cw κ cs I8 J2 W) h (fun _ => rfl) (fun h =>
  tt_F [some (.ref 97), none] (And.intro rfl trivial) (tl_140_12   I8 J2 _ h)) (fun h =>
  tt_I (L1 := bk_140_12) (L2 := (bk_140_11.drop 28)) 3 [some (.ref 97), some (.int q4)] [.ref 97] (cw κ cs I8 J2 W) h (fun _ => rfl) (fun h =>
  tt_F [some (.ref 97), none] (And.intro rfl trivial) (tl_140_12   I8 J2 _ h)) (fun h =>
  tt_I (L1 := bk_140_12) (L2 := (bk_140_11.drop 31)) 3 [some (.ref 97), some (.int q4)] [.ref 97] (cw κ cs I8 J2 W) h (fun _ => rfl) (fun h =>
  tt_F [some (.ref 97), none] (And.intro rfl trivial) (tl_140_12   I8 J2 _ h)) (fun h =>
  tt_I (L1 := bk_140_12) (L2 := bk_140_13) 3 [some (.ref 97), some (.int q4)] [.ref 97] (cw κ cs I8 J2 W) h (fun _ => rfl) (fun h =>
  tt_F [some (.ref 97), none] (And.intro rfl trivial) (tl_140_12   I8 J2 _ h)) (fun h =>
  tt_J (L1 := bk_140_14) 0 [some (.ref 97), some (.int q4)] [.int (4 : Int32), .ref 97] (cw κ cs I8 J2 W) (fun _ => rfl) (tt_F [some (.ref 97), none] (And.intro rfl trivial) (tl_140_14  (4 : Int32) I8 J2 _ h)))))))))))) (fun h =>
  tt_F [some (.ref 97), none] (And.intro rfl trivial) (tl_140_8   I5 J2 _ h))) (fun h =>
  tt_F [some (.ref 97), none] (And.intro rfl trivial) (tl_140_4   I5 J2 _ h))) (fun h =>
  let I23 := up I5 97 17 (0 : Int32)
  tt_J (L1 := bk_140_15) 3 [some (.ref 97), some (.int q4)] [] (cw κ cs I23 J2 W) (fun _ => rfl) (tt_F [some (.ref 97), none] (And.intro rfl trivial) (tl_140_15   I23 J2 _ h)))
theorem tl_140_1 {d : Nat} {κ : Nat × Option Nat} {cs : Nat × Nat} {W : Nat} (c0 : (Nat → Nat → Int32) → (Nat → Nat → Int64) → Option ((Nat → Nat → Int32) × (Nat → Nat → Int64))) (k0 : ∀ (I : (Nat → Nat → Int32)) (J : (Nat → Nat → Int64)) (r : ((Nat → Nat → Int32) × (Nat → Nat → Int64))), c0  I J = some r → tt (d + 1) me_140 bk_140_0 [some (.ref 97), none] [] (cw κ cs I J W) (.inl none) (cw κ cs r.1 r.2 W)) (I : (Nat → Nat → Int32)) (J : (Nat → Nat → Int64)) (r : ((Nat → Nat → Int32) × (Nat → Nat → Int64))) (h : lb_140_1 c0  I J = some r) : tt (d + 1) me_140 bk_140_1 [some (.ref 97), none] [] (cw κ cs I J W) (.inl none) (cw κ cs r.1 r.2 W) :=
  let I25 := up I 97 16 ((I 97 16) + (1 : Int32))
  tt_J (L1 := bk_140_0) 6 [some (.ref 97), none] [] (cw κ cs I25 J W) (fun _ => rfl) (tt_F [some (.ref 97), none] (And.intro rfl trivial) (k0  I25 J _ h))
theorem tb_140_0 {d : Nat} {κ : Nat × Option Nat} {cs : Nat × Nat} {W : Nat} (c0 : (Nat → Nat → Int32) → (Nat → Nat → Int64) → Option ((Nat → Nat → Int32) × (Nat → Nat → Int64))) (k0 : ∀ (I : (Nat → Nat → Int32)) (J : (Nat → Nat → Int64)) (r : ((Nat → Nat → Int32) × (Nat → Nat → Int64))), c0  I J = some r → tt (d + 1) me_140 bk_140_0 [some (.ref 97), none] [] (cw κ cs I J W) (.inl none) (cw κ cs r.1 r.2 W)) (I : (Nat → Nat → Int32)) (J : (Nat → Nat → Int64)) (r : ((Nat → Nat → Int32) × (Nat → Nat → Int64))) (h : bd_140_0  c0  I J = some r) : tt (d + 1) me_140 bk_140_0 [some (.ref 97), none] [] (cw κ cs I J W) (.inl none) (cw κ cs r.1 r.2 W) :=
  tt_I (L1 := (bk_140_0.drop 5)) (L2 := bk_140_2) 5 [some (.ref 97), none] [] (cw κ cs I J W) h (fun _ => rfl) (fun h =>
  tt_C (L1 := (bk_140_0.drop 9)) 4 [some (.ref 97), none] [] (cw κ cs I J W) h (fun _ => rfl) (fun _ e => m_137 (d := d) e) fun q24 h =>
  tt_I (L1 := bk_140_1) (L2 := (bk_140_0.drop 11)) 2 [some (.ref 97), none] [] (cw κ cs I J W) h (fun _ => rfl) (fun h =>
  tt_F [some (.ref 97), none] (And.intro rfl trivial) (tl_140_1 c0 k0  I J _ h)) (fun h =>
  tt_C (L1 := (bk_140_0.drop 15)) 4 [some (.ref 97), none] [] (cw κ cs I J W) h (fun _ => rfl) (fun _ e => m_137 (d := d) e) fun q26 h =>
  tt_I (L1 := bk_140_1) (L2 := bk_140_2) 2 [some (.ref 97), none] [] (cw κ cs I J W) h (fun _ => rfl) (fun h =>
  tt_F [some (.ref 97), none] (And.intro rfl trivial) (tl_140_1 c0 k0  I J _ h)) (fun h =>
  tt_F [some (.ref 97), none] (And.intro rfl trivial) (tl_140_2   I J _ h)))) (fun h =>
  tt_F [some (.ref 97), none] (And.intro rfl trivial) (tl_140_2   I J _ h))
theorem tn_140_0 {d : Nat} {κ : Nat × Option Nat} {cs : Nat × Nat} {W : Nat} : ∀ (n : Nat) (I : (Nat → Nat → Int32)) (J : (Nat → Nat → Int64)) (r : ((Nat → Nat → Int32) × (Nat → Nat → Int64))), fx (fun _ _ => none) (bd_140_0 ) n  I J = some r → tt (d + 1) me_140 bk_140_0 [some (.ref 97), none] [] (cw κ cs I J W) (.inl none) (cw κ cs r.1 r.2 W)
  | 0 => fun _ _ _ h => nomatch h
  | n + 1 => fun  I J r h => tb_140_0  (fx _ (bd_140_0 ) n) (tn_140_0  n)  I J r h
theorem tl_140_0 {d : Nat} {κ : Nat × Option Nat} {cs : Nat × Nat} {W : Nat} (I : (Nat → Nat → Int32)) (J : (Nat → Nat → Int64)) (r : ((Nat → Nat → Int32) × (Nat → Nat → Int64))) (h : lb_140_0   I J = some r) : tt (d + 1) me_140 bk_140_0 [some (.ref 97), none] [] (cw κ cs I J W) (.inl none) (cw κ cs r.1 r.2 W) := tn_140_0  FU  I J r h
theorem m_140 {d : Nat} {κ : Nat × Option Nat} {cs : Nat × Nat} {W : Nat} {I : (Nat → Nat → Int32)} {J : (Nat → Nat → Int64)} {r : ((Nat → Nat → Int32) × (Nat → Nat → Int64))} (h : f_140  I J = some r) : tm (d + 1) 140 [.ref 97] (cw κ cs I J W) (.inl none) (cw κ cs r.1 r.2 W) :=
  tm_of me_140 rfl (Nat.le_of_ble_eq_true rfl) (
  tt_F [some (.ref 97), none] (And.intro rfl trivial) (tl_140_0   I J _ h))
/- 141 -/
def lb_141_3 (x5 : Int64) : Option Int64 :=
  (some x5)
def lb_141_2 (x4 : Int32) (x5 : Int64) : Option Int64 :=
  (if x4 = 0 then (lb_141_3  x5 ) else (lb_141_3  ((x5 <<< (((5 : Int32)).toInt64 &&& 63)) ||| ((x4 - (96 : Int32))).toInt64) ))
def lb_141_1 (x3 : Int32) (x4 : Int32) (x5 : Int64) : Option Int64 :=
  (if x3 = 0 then (lb_141_2  x4 x5 ) else (lb_141_2  x4 ((x5 <<< (((5 : Int32)).toInt64 &&& 63)) ||| ((x3 - (96 : Int32))).toInt64) ))
def f_141 (x0 : Int32) (x1 : Int32) (x2 : Int32) (x3 : Int32) (x4 : Int32) : Option Int64 :=
  (if x2 = 0 then (lb_141_1  x3 x4 ((((x0).toInt64 - (lN 96)) <<< (((5 : Int32)).toInt64 &&& 63)) ||| ((x1 - (96 : Int32))).toInt64) ) else (lb_141_1  x3 x4 ((((((x0).toInt64 - (lN 96)) <<< (((5 : Int32)).toInt64 &&& 63)) ||| ((x1 - (96 : Int32))).toInt64) <<< (((5 : Int32)).toInt64 &&& 63)) ||| ((x2 - (96 : Int32))).toInt64) ))
theorem tl_141_3 {d : Nat} {κ : Nat × Option Nat} {cs : Nat × Nat} {I : Nat → Nat → Int32} {J : Nat → Nat → Int64} {W : Nat} (x5 : Int64) (r : Int64) (h : lb_141_3  x5  = some r) : tt d me_141 bk_141_3 [none, none, none, none, none, some (.long x5), none] [] (cw κ cs I J W) (.inl (some (.long r))) (cw κ cs I J W) :=
  tt_R 2 (fun r => (.inl (some (.long r)))) (fun r => (cw κ cs I J W)) h (fun _ => rfl)
theorem tl_141_2 {d : Nat} {κ : Nat × Option Nat} {cs : Nat × Nat} {I : Nat → Nat → Int32} {J : Nat → Nat → Int64} {W : Nat} (x4 : Int32) (x5 : Int64) (r : Int64) (h : lb_141_2  x4 x5  = some r) : tt d me_141 bk_141_2 [none, none, none, none, some (.int x4), some (.long x5), none] [] (cw κ cs I J W) (.inl (some (.long r))) (cw κ cs I J W) :=
  tt_I (L1 := bk_141_3) (L2 := (bk_141_2.drop 2)) 2 [none, none, none, none, some (.int x4), some (.long x5), none] [] (cw κ cs I J W) h (fun _ => rfl) (fun h =>
  tt_F [none, none, none, none, none, some (.long x5), none] (And.intro rfl trivial) (tl_141_3  x5  _ h)) (fun h =>
  tt_J (L1 := bk_141_3) 8 [none, none, none, none, some (.int x4), some (.long ((x5 <<< (((5 : Int32)).toInt64 &&& 63)) ||| ((x4 - (96 : Int32))).toInt64)), none] [] (cw κ cs I J W) (fun _ => rfl) (tt_F [none, none, none, none, none, some (.long ((x5 <<< (((5 : Int32)).toInt64 &&& 63)) ||| ((x4 - (96 : Int32))).toInt64)), none] (And.intro rfl trivial) (tl_141_3  ((x5 <<< (((5 : Int32)).toInt64 &&& 63)) ||| ((x4 - (96 : Int32))).toInt64)  _ h)))
theorem tl_141_1 {d : Nat} {κ : Nat × Option Nat} {cs : Nat × Nat} {I : Nat → Nat → Int32} {J : Nat → Nat → Int64} {W : Nat} (x3 : Int32) (x4 : Int32) (x5 : Int64) (r : Int64) (h : lb_141_1  x3 x4 x5  = some r) : tt d me_141 bk_141_1 [none, none, none, some (.int x3), some (.int x4), some (.long x5), none] [] (cw κ cs I J W) (.inl (some (.long r))) (cw κ cs I J W) :=
  tt_I (L1 := bk_141_2) (L2 := (bk_141_1.drop 2)) 2 [none, none, none, some (.int x3), some (.int x4), some (.long x5), none] [] (cw κ cs I J W) h (fun _ => rfl) (fun h =>
  tt_F [none, none, none, none, some (.int x4), some (.long x5), none] (And.intro rfl (And.intro rfl trivial)) (tl_141_2  x4 x5  _ h)) (fun h =>
  tt_J (L1 := bk_141_2) 8 [none, none, none, some (.int x3), some (.int x4), some (.long ((x5 <<< (((5 : Int32)).toInt64 &&& 63)) ||| ((x3 - (96 : Int32))).toInt64)), none] [] (cw κ cs I J W) (fun _ => rfl) (tt_F [none, none, none, none, some (.int x4), some (.long ((x5 <<< (((5 : Int32)).toInt64 &&& 63)) ||| ((x3 - (96 : Int32))).toInt64)), none] (And.intro rfl (And.intro rfl trivial)) (tl_141_2  x4 ((x5 <<< (((5 : Int32)).toInt64 &&& 63)) ||| ((x3 - (96 : Int32))).toInt64)  _ h)))
theorem m_141 {d : Nat} {κ : Nat × Option Nat} {cs : Nat × Nat} {I : Nat → Nat → Int32} {J : Nat → Nat → Int64} {W : Nat} {x0 : Int32} {x1 : Int32} {x2 : Int32} {x3 : Int32} {x4 : Int32} {r : Int64} (h : f_141 x0 x1 x2 x3 x4  = some r) : tm d 141 [.int x0, .int x1, .int x2, .int x3, .int x4] (cw κ cs I J W) (.inl (some (.long r))) (cw κ cs I J W) :=
  tm_of me_141 rfl (Nat.le_of_ble_eq_true rfl) (
  tt_I (L1 := bk_141_1) (L2 := (bk_141_0.drop 14)) 14 [some (.int x0), some (.int x1), some (.int x2), some (.int x3), some (.int x4), some (.long ((((x0).toInt64 - (lN 96)) <<< (((5 : Int32)).toInt64 &&& 63)) ||| ((x1 - (96 : Int32))).toInt64)), none] [] (cw κ cs I J W) h (fun _ => rfl) (fun h =>
  tt_F [none, none, none, some (.int x3), some (.int x4), some (.long ((((x0).toInt64 - (lN 96)) <<< (((5 : Int32)).toInt64 &&& 63)) ||| ((x1 - (96 : Int32))).toInt64)), none] (And.intro rfl (And.intro rfl (And.intro rfl trivial))) (tl_141_1  x3 x4 ((((x0).toInt64 - (lN 96)) <<< (((5 : Int32)).toInt64 &&& 63)) ||| ((x1 - (96 : Int32))).toInt64)  _ h)) (fun h =>
  tt_J (L1 := bk_141_1) 8 [some (.int x0), some (.int x1), some (.int x2), some (.int x3), some (.int x4), some (.long ((((((x0).toInt64 - (lN 96)) <<< (((5 : Int32)).toInt64 &&& 63)) ||| ((x1 - (96 : Int32))).toInt64) <<< (((5 : Int32)).toInt64 &&& 63)) ||| ((x2 - (96 : Int32))).toInt64)), none] [] (cw κ cs I J W) (fun _ => rfl) (tt_F [none, none, none, some (.int x3), some (.int x4), some (.long ((((((x0).toInt64 - (lN 96)) <<< (((5 : Int32)).toInt64 &&& 63)) ||| ((x1 - (96 : Int32))).toInt64) <<< (((5 : Int32)).toInt64 &&& 63)) ||| ((x2 - (96 : Int32))).toInt64)), none] (And.intro rfl (And.intro rfl (And.intro rfl trivial))) (tl_141_1  x3 x4 ((((((x0).toInt64 - (lN 96)) <<< (((5 : Int32)).toInt64 &&& 63)) ||| ((x1 - (96 : Int32))).toInt64) <<< (((5 : Int32)).toInt64 &&& 63)) ||| ((x2 - (96 : Int32))).toInt64)  _ h))))
/- 142 -/
def f_142 (x0 : Int32) : Option Int64 :=
  (if x0 = (0 : Int32) then ((f_141 (100 : Int32) (101 : Int32) (97 : Int32) (108 : Int32) (0 : Int32) ).bind fun q1 => (some q1)) else (if x0 = (1 : Int32) then ((f_141 (119 : Int32) (105 : Int32) (115 : Int32) (104 : Int32) (0 : Int32) ).bind fun q2 => (some q2)) else (if x0 = (2 : Int32) then ((f_141 (104 : Int32) (101 : Int32) (97 : Int32) (112 : Int32) (115 : Int32) ).bind fun q3 => (some q3)) else (if x0 = (3 : Int32) then ((f_141 (99 : Int32) (97 : Int32) (114 : Int32) (100 : Int32) (115 : Int32) ).bind fun q4 => (some q4)) else (if x0 = (4 : Int32) then ((f_141 (110 : Int32) (97 : Int32) (109 : Int32) (101 : Int32) (100 : Int32) ).bind fun q5 => (some q5)) else (if x0 = (5 : Int32) then ((f_141 (115 : Int32) (105 : Int32) (122 : Int32) (101 : Int32) (0 : Int32) ).bind fun q6 => (some q6)) else (if x0 = (6 : Int32) then ((f_141 (108 : Int32) (105 : Int32) (101 : Int32) (115 : Int32) (0 : Int32) ).bind fun q7 => (some q7)) else (if x0 = (7 : Int32) then ((f_141 (116 : Int32) (117 : Int32) (114 : Int32) (110 : Int32) (0 : Int32) ).bind fun q8 => (some q8)) else (if x0 = (8 : Int32) then ((f_141 (102 : Int32) (114 : Int32) (111 : Int32) (0 : Int32) (0 : Int32) ).bind fun q9 => (some q9)) else (if x0 = (9 : Int32) then ((f_141 (114 : Int32) (117 : Int32) (110 : Int32) (0 : Int32) (0 : Int32) ).bind fun q10 => (some q10)) else (if x0 = (10 : Int32) then ((f_141 (117 : Int32) (110 : Int32) (100 : Int32) (101 : Int32) (114 : Int32) ).bind fun q11 => (some q11)) else (if x0 = (11 : Int32) then ((f_141 (111 : Int32) (118 : Int32) (101 : Int32) (114 : Int32) (0 : Int32) ).bind fun q12 => (some q12)) else (if x0 = (12 : Int32) then ((f_141 (97 : Int32) (116 : Int32) (0 : Int32) (0 : Int32) (0 : Int32) ).bind fun q13 => (some q13)) else (if x0 = (13 : Int32) then ((f_141 (97 : Int32) (110 : Int32) (100 : Int32) (0 : Int32) (0 : Int32) ).bind fun q14 => (some q14)) else (if x0 = (14 : Int32) then ((f_141 (111 : Int32) (114 : Int32) (0 : Int32) (0 : Int32) (0 : Int32) ).bind fun q15 => (some q15)) else ((f_141 (110 : Int32) (111 : Int32) (116 : Int32) (0 : Int32) (0 : Int32) ).bind fun q16 => (some q16)))))))))))))))))
theorem m_142 {d : Nat} {κ : Nat × Option Nat} {cs : Nat × Nat} {I : Nat → Nat → Int32} {J : Nat → Nat → Int64} {W : Nat} {x0 : Int32} {r : Int64} (h : f_142 x0  = some r) : tm (d + 1) 142 [.int x0] (cw κ cs I J W) (.inl (some (.long r))) (cw κ cs I J W) :=
  tm_of me_142 rfl (Nat.le_of_ble_eq_true rfl) (
  tt_J (L1 := (bk_142_0.drop 1)) 0 [some (.int x0)] [.int x0] (cw κ cs I J W) (fun _ => rfl) (
  tt_T (L1 := bk_142_1) (0 : Int32) h (fun _ => rfl) (fun h =>
  tt_C (L1 := (bk_142_1.drop 6)) 6 [some (.int x0)] [] (cw κ cs I J W) h (fun _ => rfl) (fun _ e => m_141 (d := d) e) fun q1 h =>
  tt_R 1 (fun r => (.inl (some (.long r)))) (fun r => (cw κ cs I J W)) h (fun _ => rfl)) (fun e0 h =>
  tt_T (L1 := bk_142_2) (1 : Int32) h (fun _ => rfl) (fun h =>
  tt_C (L1 := (bk_142_2.drop 6)) 6 [some (.int x0)] [] (cw κ cs I J W) h (fun _ => rfl) (fun _ e => m_141 (d := d) e) fun q2 h =>
  tt_R 1 (fun r => (.inl (some (.long r)))) (fun r => (cw κ cs I J W)) h (fun _ => rfl)) (fun e1 h =>
  tt_T (L1 := bk_142_3) (2 : Int32) h (fun _ => rfl) (fun h =>
  tt_C (L1 := (bk_142_3.drop 6)) 6 [some (.int x0)] [] (cw κ cs I J W) h (fun _ => rfl) (fun _ e => m_141 (d := d) e) fun q3 h =>
  tt_R 1 (fun r => (.inl (some (.long r)))) (fun r => (cw κ cs I J W)) h (fun _ => rfl)) (fun e2 h =>
  tt_T (L1 := bk_142_4) (3 : Int32) h (fun _ => rfl) (fun h =>
  tt_C (L1 := (bk_142_4.drop 6)) 6 [some (.int x0)] [] (cw κ cs I J W) h (fun _ => rfl) (fun _ e => m_141 (d := d) e) fun q4 h =>
  tt_R 1 (fun r => (.inl (some (.long r)))) (fun r => (cw κ cs I J W)) h (fun _ => rfl)) (fun e3 h =>
  tt_T (L1 := bk_142_5) (4 : Int32) h (fun _ => rfl) (fun h =>
  tt_C (L1 := (bk_142_5.drop 6)) 6 [some (.int x0)] [] (cw κ cs I J W) h (fun _ => rfl) (fun _ e => m_141 (d := d) e) fun q5 h =>
  tt_R 1 (fun r => (.inl (some (.long r)))) (fun r => (cw κ cs I J W)) h (fun _ => rfl)) (fun e4 h =>
  tt_T (L1 := bk_142_6) (5 : Int32) h (fun _ => rfl) (fun h =>
  tt_C (L1 := (bk_142_6.drop 6)) 6 [some (.int x0)] [] (cw κ cs I J W) h (fun _ => rfl) (fun _ e => m_141 (d := d) e) fun q6 h =>
  tt_R 1 (fun r => (.inl (some (.long r)))) (fun r => (cw κ cs I J W)) h (fun _ => rfl)) (fun e5 h =>
  tt_T (L1 := bk_142_7) (6 : Int32) h (fun _ => rfl) (fun h =>
  tt_C (L1 := (bk_142_7.drop 6)) 6 [some (.int x0)] [] (cw κ cs I J W) h (fun _ => rfl) (fun _ e => m_141 (d := d) e) fun q7 h =>
  tt_R 1 (fun r => (.inl (some (.long r)))) (fun r => (cw κ cs I J W)) h (fun _ => rfl)) (fun e6 h =>
  tt_T (L1 := bk_142_8) (7 : Int32) h (fun _ => rfl) (fun h =>
  tt_C (L1 := (bk_142_8.drop 6)) 6 [some (.int x0)] [] (cw κ cs I J W) h (fun _ => rfl) (fun _ e => m_141 (d := d) e) fun q8 h =>
  tt_R 1 (fun r => (.inl (some (.long r)))) (fun r => (cw κ cs I J W)) h (fun _ => rfl)) (fun e7 h =>
  tt_T (L1 := bk_142_9) (8 : Int32) h (fun _ => rfl) (fun h =>
  tt_C (L1 := (bk_142_9.drop 6)) 6 [some (.int x0)] [] (cw κ cs I J W) h (fun _ => rfl) (fun _ e => m_141 (d := d) e) fun q9 h =>
  tt_R 1 (fun r => (.inl (some (.long r)))) (fun r => (cw κ cs I J W)) h (fun _ => rfl)) (fun e8 h =>
  tt_T (L1 := bk_142_10) (9 : Int32) h (fun _ => rfl) (fun h =>
  tt_C (L1 := (bk_142_10.drop 6)) 6 [some (.int x0)] [] (cw κ cs I J W) h (fun _ => rfl) (fun _ e => m_141 (d := d) e) fun q10 h =>
  tt_R 1 (fun r => (.inl (some (.long r)))) (fun r => (cw κ cs I J W)) h (fun _ => rfl)) (fun e9 h =>
  tt_T (L1 := bk_142_11) (10 : Int32) h (fun _ => rfl) (fun h =>
  tt_C (L1 := (bk_142_11.drop 6)) 6 [some (.int x0)] [] (cw κ cs I J W) h (fun _ => rfl) (fun _ e => m_141 (d := d) e) fun q11 h =>
  tt_R 1 (fun r => (.inl (some (.long r)))) (fun r => (cw κ cs I J W)) h (fun _ => rfl)) (fun e10 h =>
  tt_T (L1 := bk_142_12) (11 : Int32) h (fun _ => rfl) (fun h =>
  tt_C (L1 := (bk_142_12.drop 6)) 6 [some (.int x0)] [] (cw κ cs I J W) h (fun _ => rfl) (fun _ e => m_141 (d := d) e) fun q12 h =>
  tt_R 1 (fun r => (.inl (some (.long r)))) (fun r => (cw κ cs I J W)) h (fun _ => rfl)) (fun e11 h =>
  tt_T (L1 := bk_142_13) (12 : Int32) h (fun _ => rfl) (fun h =>
  tt_C (L1 := (bk_142_13.drop 6)) 6 [some (.int x0)] [] (cw κ cs I J W) h (fun _ => rfl) (fun _ e => m_141 (d := d) e) fun q13 h =>
  tt_R 1 (fun r => (.inl (some (.long r)))) (fun r => (cw κ cs I J W)) h (fun _ => rfl)) (fun e12 h =>
  tt_T (L1 := bk_142_14) (13 : Int32) h (fun _ => rfl) (fun h =>
  tt_C (L1 := (bk_142_14.drop 6)) 6 [some (.int x0)] [] (cw κ cs I J W) h (fun _ => rfl) (fun _ e => m_141 (d := d) e) fun q14 h =>
  tt_R 1 (fun r => (.inl (some (.long r)))) (fun r => (cw κ cs I J W)) h (fun _ => rfl)) (fun e13 h =>
  tt_T (L1 := bk_142_15) (14 : Int32) h (fun _ => rfl) (fun h =>
  tt_C (L1 := (bk_142_15.drop 6)) 6 [some (.int x0)] [] (cw κ cs I J W) h (fun _ => rfl) (fun _ e => m_141 (d := d) e) fun q15 h =>
  tt_R 1 (fun r => (.inl (some (.long r)))) (fun r => (cw κ cs I J W)) h (fun _ => rfl)) (fun e14 h =>
  tt_T0 (by have e0 := nev e0 (show ((0 : Int32)).toInt = 0 from rfl); have e1 := nev e1 (show ((1 : Int32)).toInt = 1 from rfl); have e2 := nev e2 (show ((2 : Int32)).toInt = 2 from rfl); have e3 := nev e3 (show ((3 : Int32)).toInt = 3 from rfl); have e4 := nev e4 (show ((4 : Int32)).toInt = 4 from rfl); have e5 := nev e5 (show ((5 : Int32)).toInt = 5 from rfl); have e6 := nev e6 (show ((6 : Int32)).toInt = 6 from rfl); have e7 := nev e7 (show ((7 : Int32)).toInt = 7 from rfl); have e8 := nev e8 (show ((8 : Int32)).toInt = 8 from rfl); have e9 := nev e9 (show ((9 : Int32)).toInt = 9 from rfl); have e10 := nev e10 (show ((10 : Int32)).toInt = 10 from rfl); have e11 := nev e11 (show ((11 : Int32)).toInt = 11 from rfl); have e12 := nev e12 (show ((12 : Int32)).toInt = 12 from rfl); have e13 := nev e13 (show ((13 : Int32)).toInt = 13 from rfl); have e14 := nev e14 (show ((14 : Int32)).toInt = 14 from rfl); omega) (
  tt_C (L1 := (bk_142_16.drop 6)) 6 [some (.int x0)] [] (cw κ cs I J W) h (fun _ => rfl) (fun _ e => m_141 (d := d) e) fun q16 h =>
  tt_R 1 (fun r => (.inl (some (.long r)))) (fun r => (cw κ cs I J W)) h (fun _ => rfl)))))))))))))))))))
/- 143 -/
def lb_143_1 (I : (Nat → Nat → Int32)) (J : (Nat → Nat → Int64)) : Option Int32 :=
  (some ((-1) : Int32))
def bd_143_3 (c3 : Int32 → (Nat → Nat → Int32) → (Nat → Nat → Int64) → Option Int32) (x1 : Int32) (I : (Nat → Nat → Int32)) (J : (Nat → Nat → Int64)) : Option Int32 :=
  (if x1 < (16 : Int32) then ((f_142 x1 ).bind fun q1 => (if (lg_cmp q1 (J 97 22)) = 0 then (some x1) else (c3 (x1 + (1 : Int32)) I J))) else (some ((-1) : Int32)))
def lb_143_3 : Int32 → (Nat → Nat → Int32) → (Nat → Nat → Int64) → Option Int32 := fx (fun _ _ _ => none) (bd_143_3 ) FU
def f_143 (I : (Nat → Nat → Int32)) (J : (Nat → Nat → Int64)) : Option Int32 :=
  (if (I 97 17) = (1 : Int32) then (if (5 : Int32) < (I 97 19) then (lb_143_1   I J) else (lb_143_3  (0 : Int32) I J)) else (lb_143_1   I J))
theorem tl_143_1 {d : Nat} {κ : Nat × Option Nat} {cs : Nat × Nat} {W : Nat} (I : (Nat → Nat → Int32)) (J : (Nat → Nat → Int64)) (r : Int32) (h : lb_143_1   I J = some r) : tt (d + 2) me_143 bk_143_1 [none, none] [] (cw κ cs I J W) (.inl (some (.int r))) (cw κ cs I J W) :=
  tt_R 2 (fun r => (.inl (some (.int r)))) (fun r => (cw κ cs I J W)) h (fun _ => rfl)
theorem tb_143_3 {d : Nat} {κ : Nat × Option Nat} {cs : Nat × Nat} {W : Nat} (c3 : Int32 → (Nat → Nat → Int32) → (Nat → Nat → Int64) → Option Int32) (k3 : ∀ (x1 : Int32) (I : (Nat → Nat → Int32)) (J : (Nat → Nat → Int64)) (r : Int32), c3 x1 I J = some r → tt (d + 2) me_143 bk_143_3 [some (.ref 97), some (.int x1)] [] (cw κ cs I J W) (.inl (some (.int r))) (cw κ cs I J W)) (x1 : Int32) (I : (Nat → Nat → Int32)) (J : (Nat → Nat → Int64)) (r : Int32) (h : bd_143_3  c3 x1 I J = some r) : tt (d + 2) me_143 bk_143_3 [some (.ref 97), some (.int x1)] [] (cw κ cs I J W) (.inl (some (.int r))) (cw κ cs I J W) :=
  tt_I (L1 := (bk_143_3.drop 3)) (L2 := bk_143_5) 3 [some (.ref 97), some (.int x1)] [] (cw κ cs I J W) h (fun _ => rfl) (fun h =>
  tt_C (L1 := (bk_143_3.drop 5)) 2 [some (.ref 97), some (.int x1)] [] (cw κ cs I J W) h (fun _ => rfl) (fun _ e => m_142 (d := d) e) fun q1 h =>
  tt_I (L1 := (bk_143_3.drop 9)) (L2 := bk_143_4) 4 [some (.ref 97), some (.int x1)] [] (cw κ cs I J W) h (fun _ => rfl) (fun h =>
  tt_R 2 (fun r => (.inl (some (.int r)))) (fun r => (cw κ cs I J W)) h (fun _ => rfl)) (fun h =>
  tt_J (L1 := bk_143_3) 1 [some (.ref 97), some (.int (x1 + (1 : Int32)))] [] (cw κ cs I J W) (fun _ => rfl) (tt_F [some (.ref 97), some (.int (x1 + (1 : Int32)))] (And.intro rfl (And.intro rfl trivial)) (k3 (x1 + (1 : Int32)) I J _ h)))) (fun h =>
  tt_R 2 (fun r => (.inl (some (.int r)))) (fun r => (cw κ cs I J W)) h (fun _ => rfl))
theorem tn_143_3 {d : Nat} {κ : Nat × Option Nat} {cs : Nat × Nat} {W : Nat} : ∀ (n : Nat) (x1 : Int32) (I : (Nat → Nat → Int32)) (J : (Nat → Nat → Int64)) (r : Int32), fx (fun _ _ _ => none) (bd_143_3 ) n x1 I J = some r → tt (d + 2) me_143 bk_143_3 [some (.ref 97), some (.int x1)] [] (cw κ cs I J W) (.inl (some (.int r))) (cw κ cs I J W)
  | 0 => fun _ _ _ _ h => nomatch h
  | n + 1 => fun x1 I J r h => tb_143_3  (fx _ (bd_143_3 ) n) (tn_143_3  n) x1 I J r h
theorem tl_143_3 {d : Nat} {κ : Nat × Option Nat} {cs : Nat × Nat} {W : Nat} (x1 : Int32) (I : (Nat → Nat → Int32)) (J : (Nat → Nat → Int64)) (r : Int32) (h : lb_143_3  x1 I J = some r) : tt (d + 2) me_143 bk_143_3 [some (.ref 97), some (.int x1)] [] (cw κ cs I J W) (.inl (some (.int r))) (cw κ cs I J W) := tn_143_3  FU x1 I J r h
theorem m_143 {d : Nat} {κ : Nat × Option Nat} {cs : Nat × Nat} {W : Nat} {I : (Nat → Nat → Int32)} {J : (Nat → Nat → Int64)} {r : Int32} (h : f_143  I J = some r) : tm (d + 2) 143 [.ref 97] (cw κ cs I J W) (.inl (some (.int r))) (cw κ cs I J W) :=
  tm_of me_143 rfl (Nat.le_of_ble_eq_true rfl) (
  tt_I (L1 := (bk_143_0.drop 4)) (L2 := bk_143_1) 4 [some (.ref 97), none] [] (cw κ cs I J W) h (fun _ => rfl) (fun h =>
  tt_I (L1 := bk_143_1) (L2 := bk_143_2) 4 [some (.ref 97), none] [] (cw κ cs I J W) h (fun _ => rfl) (fun h =>
  tt_F [none, none] trivial (tl_143_1   I J _ h)) (fun h =>
  tt_J (L1 := bk_143_3) 1 [some (.ref 97), some (.int (0 : Int32))] [] (cw κ cs I J W) (fun _ => rfl) (tt_F [some (.ref 97), some (.int (0 : Int32))] (And.intro rfl (And.intro rfl trivial)) (tl_143_3  (0 : Int32) I J _ h)))) (fun h =>
  tt_F [none, none] trivial (tl_143_1   I J _ h)))
/- 144 -/
def f_144 (x1 : Int32) (I : (Nat → Nat → Int32)) : Option (Nat → Nat → Int32) :=
  (if (I 97 12) = 0 then (let I1 := up I 97 12 x1
  (let I2 := up I1 97 13 (I1 97 18)
  (some I2))) else (some I))
theorem m_144 {d : Nat} {κ : Nat × Option Nat} {cs : Nat × Nat} {J : Nat → Nat → Int64} {W : Nat} {x1 : Int32} {I : (Nat → Nat → Int32)} {r : (Nat → Nat → Int32)} (h : f_144 x1 I = some r) : tm d 144 [.ref 97, .int x1] (cw κ cs I J W) (.inl none) (cw κ cs r J W) :=
  tm_of me_144 rfl (Nat.le_of_ble_eq_true rfl) (
  tt_I (L1 := bk_144_1) (L2 := (bk_144_0.drop 3)) 3 [some (.ref 97), some (.int x1)] [] (cw κ cs I J W) h (fun _ => rfl) (fun h =>
  let I1 := up I 97 12 x1
  let I2 := up I1 97 13 (I1 97 18)
  tt_R 8 (fun r => (.inl none)) (fun r => (cw κ cs r J W)) h (fun _ => rfl)) (fun h =>
  tt_R 1 (fun r => (.inl none)) (fun r => (cw κ cs r J W)) h (fun _ => rfl)))
/- 145 -/
def lb_145_2 (s0 : Int32) (I : (Nat → Nat → Int32)) : Option Int32 :=
  (if (s0 = 0 ∨ s0 = 1) then some s0 else none)
def f_145 (I : (Nat → Nat → Int32)) : Option Int32 :=
  (if (I 97 12) = 0 then (lb_145_2  (1 : Int32) I) else (lb_145_2  (0 : Int32) I))
theorem tl_145_2 {d : Nat} {κ : Nat × Option Nat} {cs : Nat × Nat} {J : Nat → Nat → Int64} {W : Nat} (s0 : Int32) (I : (Nat → Nat → Int32)) (r : Int32) (h : lb_145_2  s0 I = some r) : tt d me_145 bk_145_2 [none] [.int s0] (cw κ cs I J W) (.inl (some (.int r))) (cw κ cs I J W) :=
  tt_B 1 (fun r => (.inl (some (.int r)))) (fun r => (cw κ cs I J W)) h (fun q => Or.inr (Or.inl ⟨rfl, q⟩)) (fun _ => rfl)
theorem m_145 {d : Nat} {κ : Nat × Option Nat} {cs : Nat × Nat} {J : Nat → Nat → Int64} {W : Nat} {I : (Nat → Nat → Int32)} {r : Int32} (h : f_145  I = some r) : tm d 145 [.ref 97] (cw κ cs I J W) (.inl (some (.int r))) (cw κ cs I J W) :=
  tm_of me_145 rfl (Nat.le_of_ble_eq_true rfl) (
  tt_I (L1 := (bk_145_0.drop 3)) (L2 := bk_145_1) 3 [some (.ref 97)] [] (cw κ cs I J W) h (fun _ => rfl) (fun h =>
  tt_J (L1 := bk_145_2) 1 [some (.ref 97)] [.int (1 : Int32)] (cw κ cs I J W) (fun _ => rfl) (tt_F [none] trivial (tl_145_2  (1 : Int32) I _ h))) (fun h =>
  tt_J (L1 := bk_145_2) 0 [some (.ref 97)] [.int (0 : Int32)] (cw κ cs I J W) (fun _ => rfl) (tt_F [none] trivial (tl_145_2  (0 : Int32) I _ h))))
/- 146 -/
def lb_146_2 (s0 : Int32) (I : (Nat → Nat → Int32)) : Option Int32 :=
  (if (s0 = 0 ∨ s0 = 1) then some s0 else none)
def lb_146_1 (I : (Nat → Nat → Int32)) : Option Int32 :=
  (lb_146_2  (0 : Int32) I)
def f_146 (x1 : Int32) (I : (Nat → Nat → Int32)) : Option Int32 :=
  (if (I 97 17) = (3 : Int32) then (if (I 97 21) = x1 then (lb_146_2  (1 : Int32) I) else (lb_146_1   I)) else (lb_146_1   I))
theorem tl_146_2 {d : Nat} {κ : Nat × Option Nat} {cs : Nat × Nat} {J : Nat → Nat → Int64} {W : Nat} (s0 : Int32) (I : (Nat → Nat → Int32)) (r : Int32) (h : lb_146_2  s0 I = some r) : tt d me_146 bk_146_2 [none, none] [.int s0] (cw κ cs I J W) (.inl (some (.int r))) (cw κ cs I J W) :=
  tt_B 1 (fun r => (.inl (some (.int r)))) (fun r => (cw κ cs I J W)) h (fun q => Or.inr (Or.inl ⟨rfl, q⟩)) (fun _ => rfl)
theorem tl_146_1 {d : Nat} {κ : Nat × Option Nat} {cs : Nat × Nat} {J : Nat → Nat → Int64} {W : Nat} (I : (Nat → Nat → Int32)) (r : Int32) (h : lb_146_1   I = some r) : tt d me_146 bk_146_1 [none, none] [] (cw κ cs I J W) (.inl (some (.int r))) (cw κ cs I J W) :=
  tt_J (L1 := bk_146_2) 0 [none, none] [.int (0 : Int32)] (cw κ cs I J W) (fun _ => rfl) (tt_F [none, none] trivial (tl_146_2  (0 : Int32) I _ h))
theorem m_146 {d : Nat} {κ : Nat × Option Nat} {cs : Nat × Nat} {J : Nat → Nat → Int64} {W : Nat} {x1 : Int32} {I : (Nat → Nat → Int32)} {r : Int32} (h : f_146 x1 I = some r) : tm d 146 [.ref 97, .int x1] (cw κ cs I J W) (.inl (some (.int r))) (cw κ cs I J W) :=
  tm_of me_146 rfl (Nat.le_of_ble_eq_true rfl) (
  tt_I (L1 := (bk_146_0.drop 4)) (L2 := bk_146_1) 4 [some (.ref 97), some (.int x1)] [] (cw κ cs I J W) h (fun _ => rfl) (fun h =>
  tt_I (L1 := (bk_146_0.drop 8)) (L2 := bk_146_1) 4 [some (.ref 97), some (.int x1)] [] (cw κ cs I J W) h (fun _ => rfl) (fun h =>
  tt_J (L1 := bk_146_2) 1 [some (.ref 97), some (.int x1)] [.int (1 : Int32)] (cw κ cs I J W) (fun _ => rfl) (tt_F [none, none] trivial (tl_146_2  (1 : Int32) I _ h))) (fun h =>
  tt_F [none, none] trivial (tl_146_1   I _ h))) (fun h =>
  tt_F [none, none] trivial (tl_146_1   I _ h)))
/- 147 -/
def lb_147_3 (I : (Nat → Nat → Int32)) (J : (Nat → Nat → Int64)) : Option ((Nat → Nat → Int32) × (Nat → Nat → Int64)) :=
  (some (I, J))
def f_147 (x1 : Int32) (I : (Nat → Nat → Int32)) (J : (Nat → Nat → Int64)) : Option ((Nat → Nat → Int32) × (Nat → Nat → Int64)) :=
  ((f_145  I).bind fun q1 => (if q1 = 0 then (some (I, J)) else (if x1 = 0 then ((f_144 (1 : Int32) I).bind fun q2 => (lb_147_3   q2 J)) else ((f_140  I J).bind fun q3 => (lb_147_3   q3.1 q3.2)))))
theorem tl_147_3 {d : Nat} {κ : Nat × Option Nat} {cs : Nat × Nat} {W : Nat} (I : (Nat → Nat → Int32)) (J : (Nat → Nat → Int64)) (r : ((Nat → Nat → Int32) × (Nat → Nat → Int64))) (h : lb_147_3   I J = some r) : tt (d + 2) me_147 bk_147_3 [none, none] [] (cw κ cs I J W) (.inl none) (cw κ cs r.1 r.2 W) :=
  tt_R 1 (fun r => (.inl none)) (fun r => (cw κ cs r.1 r.2 W)) h (fun _ => rfl)
theorem m_147 {d : Nat} {κ : Nat × Option Nat} {cs : Nat × Nat} {W : Nat} {x1 : Int32} {I : (Nat → Nat → Int32)} {J : (Nat → Nat → Int64)} {r : ((Nat → Nat → Int32) × (Nat → Nat → Int64))} (h : f_147 x1 I J = some r) : tm (d + 2) 147 [.ref 97, .int x1] (cw κ cs I J W) (.inl none) (cw κ cs r.1 r.2 W) :=
  tm_of me_147 rfl (Nat.le_of_ble_eq_true rfl) (
  tt_C (L1 := (bk_147_0.drop 2)) 2 [some (.ref 97), some (.int x1)] [] (cw κ cs I J W) h (fun _ => rfl) (fun _ e => m_145 (d := d + 1) e) fun q1 h =>
  tt_I (L1 := (bk_147_0.drop 3)) (L2 := bk_147_1) 1 [some (.ref 97), some (.int x1)] [] (cw κ cs I J W) h (fun _ => rfl) (fun h =>
  tt_R 1 (fun r => (.inl none)) (fun r => (cw κ cs r.1 r.2 W)) h (fun _ => rfl)) (fun h =>
  tt_I (L1 := bk_147_2) (L2 := (bk_147_1.drop 2)) 2 [some (.ref 97), some (.int x1)] [] (cw κ cs I J W) h (fun _ => rfl) (fun h =>
  tt_C (L1 := bk_147_3) 3 [some (.ref 97), some (.int x1)] [] (cw κ cs I J W) h (fun _ => rfl) (fun _ e => m_144 (d := d + 1) e) fun q2 h =>
  tt_F [none, none] trivial (tl_147_3   q2 J _ h)) (fun h =>
  tt_C (L1 := (bk_147_1.drop 4)) 2 [some (.ref 97), some (.int x1)] [] (cw κ cs I J W) h (fun _ => rfl) (fun _ e => m_140 (d := d) e) fun q3 h =>
  tt_J (L1 := bk_147_3) 0 [some (.ref 97), some (.int x1)] [] (cw κ cs q3.1 q3.2 W) (fun _ => rfl) (tt_F [none, none] trivial (tl_147_3   q3.1 q3.2 _ h)))))
/- 148 -/
def lb_148_5 (x3 : Int32) (I : (Nat → Nat → Int32)) (J : (Nat → Nat → Int64)) : Option (Int32 × (Nat → Nat → Int32) × (Nat → Nat → Int64)) :=
  (some (x3, I, J))
def lb_148_4 (I : (Nat → Nat → Int32)) (J : (Nat → Nat → Int64)) : Option (Int32 × (Nat → Nat → Int32) × (Nat → Nat → Int64)) :=
  ((f_145  I).bind fun q3 => (if q3 = 0 then (lb_148_5  (I 97 20) I J) else ((f_140  I J).bind fun q4 => (lb_148_5  (I 97 20) q4.1 q4.2))))
def lb_148_3 (I : (Nat → Nat → Int32)) (J : (Nat → Nat → Int64)) : Option (Int32 × (Nat → Nat → Int32) × (Nat → Nat → Int64)) :=
  ((f_144 (2 : Int32) I).bind fun q2 => (lb_148_4   q2 J))
def f_148 (x1 : Int32) (x2 : Int32) (I : (Nat → Nat → Int32)) (J : (Nat → Nat → Int64)) : Option (Int32 × (Nat → Nat → Int32) × (Nat → Nat → Int64)) :=
  ((f_145  I).bind fun q1 => (if q1 = 0 then (some ((0 : Int32), I, J)) else (if (I 97 17) = (2 : Int32) then (if (4 : Int32) < (I 97 19) then (lb_148_3   I J) else (if (I 97 20) < x1 then (lb_148_3   I J) else (if x2 < (I 97 20) then (lb_148_3   I J) else (lb_148_4   I J)))) else ((f_144 (1 : Int32) I).bind fun q5 => (lb_148_4   q5 J)))))
theorem tl_148_5 {d : Nat} {κ : Nat × Option Nat} {cs : Nat × Nat} {W : Nat} (x3 : Int32) (I : (Nat → Nat → Int32)) (J : (Nat → Nat → Int64)) (r : (Int32 × (Nat → Nat → Int32) × (Nat → Nat → Int64))) (h : lb_148_5  x3 I J = some r) : tt (d + 2) me_148 bk_148_5 [none, none, none, some (.int x3)] [] (cw κ cs I J W) (.inl (some (.int r.1))) (cw κ cs r.2.1 r.2.2 W) :=
  tt_R 2 (fun r => (.inl (some (.int r.1)))) (fun r => (cw κ cs r.2.1 r.2.2 W)) h (fun _ => rfl)
theorem tl_148_4 {d : Nat} {κ : Nat × Option Nat} {cs : Nat × Nat} {W : Nat} (I : (Nat → Nat → Int32)) (J : (Nat → Nat → Int64)) (r : (Int32 × (Nat → Nat → Int32) × (Nat → Nat → Int64))) (h : lb_148_4   I J = some r) : tt (d + 2) me_148 bk_148_4 [some (.ref 97), none, none, none] [] (cw κ cs I J W) (.inl (some (.int r.1))) (cw κ cs r.2.1 r.2.2 W) :=
  tt_C (L1 := (bk_148_4.drop 5)) 5 [some (.ref 97), none, none, some (.int (I 97 20))] [] (cw κ cs I J W) h (fun _ => rfl) (fun _ e => m_145 (d := d + 1) e) fun q3 h =>
  tt_I (L1 := bk_148_5) (L2 := (bk_148_4.drop 6)) 1 [some (.ref 97), none, none, some (.int (I 97 20))] [] (cw κ cs I J W) h (fun _ => rfl) (fun h =>
  tt_F [none, none, none, some (.int (I 97 20))] (And.intro rfl trivial) (tl_148_5  (I 97 20) I J _ h)) (fun h =>
  tt_C (L1 := bk_148_5) 2 [some (.ref 97), none, none, some (.int (I 97 20))] [] (cw κ cs I J W) h (fun _ => rfl) (fun _ e => m_140 (d := d) e) fun q4 h =>
  tt_F [none, none, none, some (.int (I 97 20))] (And.intro rfl trivial) (tl_148_5  (I 97 20) q4.1 q4.2 _ h))
theorem tl_148_3 {d : Nat} {κ : Nat × Option Nat} {cs : Nat × Nat} {W : Nat} (I : (Nat → Nat → Int32)) (J : (Nat → Nat → Int64)) (r : (Int32 × (Nat → Nat → Int32) × (Nat → Nat → Int64))) (h : lb_148_3   I J = some r) : tt (d + 2) me_148 bk_148_3 [some (.ref 97), none, none, none] [] (cw κ cs I J W) (.inl (some (.int r.1))) (cw κ cs r.2.1 r.2.2 W) :=
  tt_C (L1 := bk_148_4) 3 [some (.ref 97), none, none, none] [] (cw κ cs I J W) h (fun _ => rfl) (fun _ e => m_144 (d := d + 1) e) fun q2 h =>
  tt_F [some (.ref 97), none, none, none] (And.intro rfl trivial) (tl_148_4   q2 J _ h)
theorem m_148 {d : Nat} {κ : Nat × Option Nat} {cs : Nat × Nat} {W : Nat} {x1 : Int32} {x2 : Int32} {I : (Nat → Nat → Int32)} {J : (Nat → Nat → Int64)} {r : (Int32 × (Nat → Nat → Int32) × (Nat → Nat → Int64))} (h : f_148 x1 x2 I J = some r) : tm (d + 2) 148 [.ref 97, .int x1, .int x2] (cw κ cs I J W) (.inl (some (.int r.1))) (cw κ cs r.2.1 r.2.2 W) :=
  tm_of me_148 rfl (Nat.le_of_ble_eq_true rfl) (
  tt_C (L1 := (bk_148_0.drop 2)) 2 [some (.ref 97), some (.int x1), some (.int x2), none] [] (cw κ cs I J W) h (fun _ => rfl) (fun _ e => m_145 (d := d + 1) e) fun q1 h =>
  tt_I (L1 := (bk_148_0.drop 3)) (L2 := bk_148_1) 1 [some (.ref 97), some (.int x1), some (.int x2), none] [] (cw κ cs I J W) h (fun _ => rfl) (fun h =>
  tt_R 2 (fun r => (.inl (some (.int r.1)))) (fun r => (cw κ cs r.2.1 r.2.2 W)) h (fun _ => rfl)) (fun h =>
  tt_I (L1 := bk_148_2) (L2 := (bk_148_1.drop 4)) 4 [some (.ref 97), some (.int x1), some (.int x2), none] [] (cw κ cs I J W) h (fun _ => rfl) (fun h =>
  tt_I (L1 := bk_148_3) (L2 := (bk_148_2.drop 4)) 4 [some (.ref 97), some (.int x1), some (.int x2), none] [] (cw κ cs I J W) h (fun _ => rfl) (fun h =>
  tt_F [some (.ref 97), none, none, none] (And.intro rfl trivial) (tl_148_3   I J _ h)) (fun h =>
  tt_I (L1 := bk_148_3) (L2 := (bk_148_2.drop 8)) 4 [some (.ref 97), some (.int x1), some (.int x2), none] [] (cw κ cs I J W) h (fun _ => rfl) (fun h =>
  tt_F [some (.ref 97), none, none, none] (And.intro rfl trivial) (tl_148_3   I J _ h)) (fun h =>
  tt_I (L1 := bk_148_3) (L2 := bk_148_4) 4 [some (.ref 97), some (.int x1), some (.int x2), none] [] (cw κ cs I J W) h (fun _ => rfl) (fun h =>
  tt_F [some (.ref 97), none, none, none] (And.intro rfl trivial) (tl_148_3   I J _ h)) (fun h =>
  tt_F [some (.ref 97), none, none, none] (And.intro rfl trivial) (tl_148_4   I J _ h))))) (fun h =>
  tt_C (L1 := (bk_148_1.drop 7)) 3 [some (.ref 97), some (.int x1), some (.int x2), none] [] (cw κ cs I J W) h (fun _ => rfl) (fun _ e => m_144 (d := d + 1) e) fun q5 h =>
  tt_J (L1 := bk_148_4) 0 [some (.ref 97), some (.int x1), some (.int x2), none] [] (cw κ cs q5 J W) (fun _ => rfl) (tt_F [some (.ref 97), none, none, none] (And.intro rfl trivial) (tl_148_4   q5 J _ h)))))
/- 149 -/
def f_149 (x1 : Int32) (I : (Nat → Nat → Int32)) : Option (Nat → Nat → Int32) :=
  (if ex_in (I 97 29) 1300 then let I1 := up I 107 ((I 97 29)).toNatClampNeg x1
  (let I2 := up I1 97 29 ((I1 97 29) + (1 : Int32))
  (some I2)) else none)
theorem m_149 {d : Nat} {κ : Nat × Option Nat} {cs : Nat × Nat} {J : Nat → Nat → Int64} {W : Nat} {x1 : Int32} {I : (Nat → Nat → Int32)} {r : (Nat → Nat → Int32)} (h : f_149 x1 I = some r) : tm d 149 [.ref 97, .int x1] (cw κ cs I J W) (.inl none) (cw κ cs r J W) :=
  tm_of me_149 rfl (Nat.le_of_ble_eq_true rfl) (
  let I1 := up I 107 ((I 97 29)).toNatClampNeg x1
  tt_J (L1 := (bk_149_0.drop 5)) 4 [some (.ref 97), some (.int x1)] [.int x1, .int (I 97 29), .ref 107] (cw κ cs I J W) (fun _ => rfl) (
  tt_Wi rfl (Nat.le_of_ble_eq_true rfl) h fun h =>
  let I2 := up I1 97 29 ((I1 97 29) + (1 : Int32))
  tt_R 7 (fun r => (.inl none)) (fun r => (cw κ cs r J W)) h (fun _ => rfl)))
/- 150 -/
def lb_150_2 (s0 : Int32) : Option Int32 :=
  (if (s0 = 0 ∨ s0 = 1) then some s0 else none)
def f_150 (x0 : Int32) : Option Int32 :=
  (if x0 < (14 : Int32) then (lb_150_2  (0 : Int32) ) else (lb_150_2  (1 : Int32) ))
theorem tl_150_2 {d : Nat} {κ : Nat × Option Nat} {cs : Nat × Nat} {I : Nat → Nat → Int32} {J : Nat → Nat → Int64} {W : Nat} (s0 : Int32) (r : Int32) (h : lb_150_2  s0  = some r) : tt d me_150 bk_150_2 [none] [.int s0] (cw κ cs I J W) (.inl (some (.int r))) (cw κ cs I J W) :=
  tt_B 1 (fun r => (.inl (some (.int r)))) (fun r => (cw κ cs I J W)) h (fun q => Or.inr (Or.inl ⟨rfl, q⟩)) (fun _ => rfl)
theorem m_150 {d : Nat} {κ : Nat × Option Nat} {cs : Nat × Nat} {I : Nat → Nat → Int32} {J : Nat → Nat → Int64} {W : Nat} {x0 : Int32} {r : Int32} (h : f_150 x0  = some r) : tm d 150 [.int x0] (cw κ cs I J W) (.inl (some (.int r))) (cw κ cs I J W) :=
  tm_of me_150 rfl (Nat.le_of_ble_eq_true rfl) (
  tt_I (L1 := bk_150_1) (L2 := (bk_150_0.drop 3)) 3 [some (.int x0)] [] (cw κ cs I J W) h (fun _ => rfl) (fun h =>
  tt_J (L1 := bk_150_2) 0 [some (.int x0)] [.int (0 : Int32)] (cw κ cs I J W) (fun _ => rfl) (tt_F [none] trivial (tl_150_2  (0 : Int32)  _ h))) (fun h =>
  tt_J (L1 := bk_150_2) 1 [some (.int x0)] [.int (1 : Int32)] (cw κ cs I J W) (fun _ => rfl) (tt_F [none] trivial (tl_150_2  (1 : Int32)  _ h))))
