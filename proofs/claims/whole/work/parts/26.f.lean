/-! functions, by wip/whole/sy.py -/
/- 117 -/
def bd_117_1 (c1 : Int32 → Int32 → (Nat → Nat → Int32) → Option Int32) (x1 : Int32) (x2 : Int32) (I : (Nat → Nat → Int32)) : Option Int32 :=
  (if x2 < (I 79 4) then (if (atf (I 59) 60 x2) = x1 then (c1 x1 (x2 + (1 : Int32)) I) else (some ((-1) : Int32))) else (some x1))
def lb_117_1 : Int32 → Int32 → (Nat → Nat → Int32) → Option Int32 := fx (fun _ _ _ => none) (bd_117_1 ) FU
def f_117 (I : (Nat → Nat → Int32)) : Option Int32 :=
  (lb_117_1  (atf (I 59) 60 (0 : Int32)) (1 : Int32) I)
theorem tb_117_1 {d : Nat} {κ : KT} {cs : Nat × Nat} {J : Nat → Nat → Int64} {W : Nat} (c1 : Int32 → Int32 → (Nat → Nat → Int32) → Option Int32) (k1 : ∀ (x1 : Int32) (x2 : Int32) (I : (Nat → Nat → Int32)) (r : Int32), c1 x1 x2 I = some r → tt (d + 1) me_117 bk_117_1 [some (.ref 58), some (.int x1), some (.int x2)] [] (cw κ cs I J W) (.inl (some (.int r))) (cw κ cs I J W)) (x1 : Int32) (x2 : Int32) (I : (Nat → Nat → Int32)) (r : Int32) (h : bd_117_1  c1 x1 x2 I = some r) : tt (d + 1) me_117 bk_117_1 [some (.ref 58), some (.int x1), some (.int x2)] [] (cw κ cs I J W) (.inl (some (.int r))) (cw κ cs I J W) :=
  tt_I (L1 := (bk_117_1.drop 5)) (L2 := bk_117_3) 5 [some (.ref 58), some (.int x1), some (.int x2)] [] (cw κ cs I J W) h (fun _ => rfl) (fun h =>
  tt_K (L1 := (bk_117_1.drop 9)) 4 [some (.ref 58), some (.int x1), some (.int x2)] [] (cw κ cs I J W) (fun _ => rfl) (m_at 59 60 x2 (Nat.le_of_ble_eq_true rfl) rfl)
  (tt_I (L1 := bk_117_2) (L2 := (bk_117_1.drop 11)) 2 [some (.ref 58), some (.int x1), some (.int x2)] [] (cw κ cs I J W) h (fun _ => rfl) (fun h =>
  tt_J (L1 := bk_117_1) 1 [some (.ref 58), some (.int x1), some (.int (x2 + (1 : Int32)))] [] (cw κ cs I J W) (fun _ => rfl) (tt_F [some (.ref 58), some (.int x1), some (.int (x2 + (1 : Int32)))] (And.intro rfl (And.intro rfl (And.intro rfl trivial))) (k1 x1 (x2 + (1 : Int32)) I _ h))) (fun h =>
  tt_R 2 (fun r => (.inl (some (.int r)))) (fun r => (cw κ cs I J W)) h (fun _ => rfl)))) (fun h =>
  tt_R 2 (fun r => (.inl (some (.int r)))) (fun r => (cw κ cs I J W)) h (fun _ => rfl))
theorem tn_117_1 {d : Nat} {κ : KT} {cs : Nat × Nat} {J : Nat → Nat → Int64} {W : Nat} : ∀ (n : Nat) (x1 : Int32) (x2 : Int32) (I : (Nat → Nat → Int32)) (r : Int32), fx (fun _ _ _ => none) (bd_117_1 ) n x1 x2 I = some r → tt (d + 1) me_117 bk_117_1 [some (.ref 58), some (.int x1), some (.int x2)] [] (cw κ cs I J W) (.inl (some (.int r))) (cw κ cs I J W)
  | 0 => fun _ _ _ _ h => nomatch h
  | n + 1 => fun x1 x2 I r h => tb_117_1  (fx _ (bd_117_1 ) n) (tn_117_1  n) x1 x2 I r h
theorem tl_117_1 {d : Nat} {κ : KT} {cs : Nat × Nat} {J : Nat → Nat → Int64} {W : Nat} (x1 : Int32) (x2 : Int32) (I : (Nat → Nat → Int32)) (r : Int32) (h : lb_117_1  x1 x2 I = some r) : tt (d + 1) me_117 bk_117_1 [some (.ref 58), some (.int x1), some (.int x2)] [] (cw κ cs I J W) (.inl (some (.int r))) (cw κ cs I J W) := tn_117_1  FU x1 x2 I r h
theorem m_117 {d : Nat} {κ : KT} {cs : Nat × Nat} {J : Nat → Nat → Int64} {W : Nat} {I : (Nat → Nat → Int32)} {r : Int32} (h : f_117  I = some r) : tm (d + 1) 117 [.ref 58] (cw κ cs I J W) (.inl (some (.int r))) (cw κ cs I J W) :=
  tm_of me_117 rfl (Nat.le_of_ble_eq_true rfl) (
  tt_K (L1 := (bk_117_0.drop 4)) 4 [some (.ref 58), none, none] [] (cw κ cs I J W) (fun _ => rfl) (m_at 59 60 (0 : Int32) (Nat.le_of_ble_eq_true rfl) rfl)
  (tt_J (L1 := bk_117_1) 2 [some (.ref 58), some (.int (atf (I 59) 60 (0 : Int32))), some (.int (1 : Int32))] [] (cw κ cs I J W) (fun _ => rfl) (tt_F [some (.ref 58), some (.int (atf (I 59) 60 (0 : Int32))), some (.int (1 : Int32))] (And.intro rfl (And.intro rfl (And.intro rfl trivial))) (tl_117_1  (atf (I 59) 60 (0 : Int32)) (1 : Int32) I _ h))))
/- 116 -/
def bd_116_1 (c1 : Int32 → Int32 → (Nat → Nat → Int32) → Option (Nat → Nat → Int32)) (x1 : Int32) (x2 : Int32) (I : (Nat → Nat → Int32)) : Option (Nat → Nat → Int32) :=
  (if x2 < (I 79 4) then ((f_54 x1 (atf (I 59) 60 x2) I).bind fun q1 => (let I2 := putf I 59 60 x2 q1
  (c1 x1 (x2 + (1 : Int32)) I2))) else (some I))
def lb_116_1 : Int32 → Int32 → (Nat → Nat → Int32) → Option (Nat → Nat → Int32) := fx (fun _ _ _ => none) (bd_116_1 ) FU
def f_116 (x1 : Int32) (I : (Nat → Nat → Int32)) : Option (Nat → Nat → Int32) :=
  (lb_116_1  x1 (0 : Int32) I)
theorem tb_116_1 {d : Nat} {κ : KT} {cs : Nat × Nat} {J : Nat → Nat → Int64} {W : Nat} (c1 : Int32 → Int32 → (Nat → Nat → Int32) → Option (Nat → Nat → Int32)) (k1 : ∀ (x1 : Int32) (x2 : Int32) (I : (Nat → Nat → Int32)) (r : (Nat → Nat → Int32)), c1 x1 x2 I = some r → tt (d + 3) me_116 bk_116_1 [some (.ref 58), some (.int x1), some (.int x2)] [] (cw κ cs I J W) (.inl none) (cw κ cs r J W)) (x1 : Int32) (x2 : Int32) (I : (Nat → Nat → Int32)) (r : (Nat → Nat → Int32)) (h : bd_116_1  c1 x1 x2 I = some r) : tt (d + 3) me_116 bk_116_1 [some (.ref 58), some (.int x1), some (.int x2)] [] (cw κ cs I J W) (.inl none) (cw κ cs r J W) :=
  tt_I (L1 := (bk_116_1.drop 5)) (L2 := bk_116_2) 5 [some (.ref 58), some (.int x1), some (.int x2)] [] (cw κ cs I J W) h (fun _ => rfl) (fun h =>
  tt_K (L1 := (bk_116_1.drop 15)) 10 [some (.ref 58), some (.int x1), some (.int x2)] [.int x1, .ref 79, .int x2, .ref 59] (cw κ cs I J W) (fun _ => rfl) (m_at 59 60 x2 (Nat.le_of_ble_eq_true rfl) rfl)
  (tt_C (L1 := (bk_116_1.drop 16)) 1 [some (.ref 58), some (.int x1), some (.int x2)] [.int x2, .ref 59] (cw κ cs I J W) h (fun _ => rfl) (fun _ e => m_54 (d := d) e) fun q1 h =>
  let I2 := putf I 59 60 x2 q1
  tt_K (L1 := (bk_116_1.drop 17)) 1 [some (.ref 58), some (.int x1), some (.int x2)] [] (cw κ cs I J W) (fun _ => rfl) (m_put 59 60 x2 q1 (Nat.le_of_ble_eq_true rfl) rfl (Nat.le_of_ble_eq_true rfl))
  (tt_J (L1 := bk_116_1) 1 [some (.ref 58), some (.int x1), some (.int (x2 + (1 : Int32)))] [] (cw κ cs I2 J W) (fun _ => rfl) (tt_F [some (.ref 58), some (.int x1), some (.int (x2 + (1 : Int32)))] (And.intro rfl (And.intro rfl (And.intro rfl trivial))) (k1 x1 (x2 + (1 : Int32)) I2 _ h))))) (fun h =>
  tt_R 1 (fun r => (.inl none)) (fun r => (cw κ cs r J W)) h (fun _ => rfl))
theorem tn_116_1 {d : Nat} {κ : KT} {cs : Nat × Nat} {J : Nat → Nat → Int64} {W : Nat} : ∀ (n : Nat) (x1 : Int32) (x2 : Int32) (I : (Nat → Nat → Int32)) (r : (Nat → Nat → Int32)), fx (fun _ _ _ => none) (bd_116_1 ) n x1 x2 I = some r → tt (d + 3) me_116 bk_116_1 [some (.ref 58), some (.int x1), some (.int x2)] [] (cw κ cs I J W) (.inl none) (cw κ cs r J W)
  | 0 => fun _ _ _ _ h => nomatch h
  | n + 1 => fun x1 x2 I r h => tb_116_1  (fx _ (bd_116_1 ) n) (tn_116_1  n) x1 x2 I r h
theorem tl_116_1 {d : Nat} {κ : KT} {cs : Nat × Nat} {J : Nat → Nat → Int64} {W : Nat} (x1 : Int32) (x2 : Int32) (I : (Nat → Nat → Int32)) (r : (Nat → Nat → Int32)) (h : lb_116_1  x1 x2 I = some r) : tt (d + 3) me_116 bk_116_1 [some (.ref 58), some (.int x1), some (.int x2)] [] (cw κ cs I J W) (.inl none) (cw κ cs r J W) := tn_116_1  FU x1 x2 I r h
theorem m_116 {d : Nat} {κ : KT} {cs : Nat × Nat} {J : Nat → Nat → Int64} {W : Nat} {x1 : Int32} {I : (Nat → Nat → Int32)} {r : (Nat → Nat → Int32)} (h : f_116 x1 I = some r) : tm (d + 3) 116 [.ref 58, .int x1] (cw κ cs I J W) (.inl none) (cw κ cs r J W) :=
  tm_of me_116 rfl (Nat.le_of_ble_eq_true rfl) (
  tt_J (L1 := bk_116_1) 1 [some (.ref 58), some (.int x1), some (.int (0 : Int32))] [] (cw κ cs I J W) (fun _ => rfl) (tt_F [some (.ref 58), some (.int x1), some (.int (0 : Int32))] (And.intro rfl (And.intro rfl (And.intro rfl trivial))) (tl_116_1  x1 (0 : Int32) I _ h)))
/- 95 -/
def bd_95_2 (c2 : Int32 → Int32 → (Nat → Nat → Int32) → Option ((Int32 ⊕ Nat) × (Nat → Nat → Int32))) (x1 : Int32) (x2 : Int32) (I : (Nat → Nat → Int32)) : Option ((Int32 ⊕ Nat) × (Nat → Nat → Int32)) :=
  (if x2 < x1 then ((f_116 x2 I).bind fun q4 => (c2 x1 (x2 + (1 : Int32)) q4)) else ((f_117  I).bind fun q3 => (some ((.inl q3), I))))
def lb_95_2 : Int32 → Int32 → (Nat → Nat → Int32) → Option ((Int32 ⊕ Nat) × (Nat → Nat → Int32)) := fx (fun _ _ _ => none) (bd_95_2 ) FU
def f_95 (x1 : Int32) (I : (Nat → Nat → Int32)) : Option ((Int32 ⊕ Nat) × (Nat → Nat → Int32)) :=
  ((f_122 x1 (0 : Int32) (60 : Int32) ).bind fun q1 => (if q1 = 0 then (some ((.inr 0), I)) else ((f_115  I).bind fun q2 => (lb_95_2  x1 (0 : Int32) q2))))
theorem tb_95_2 {d : Nat} {κ : KT} {cs : Nat × Nat} {J : Nat → Nat → Int64} {W : Nat} (c2 : Int32 → Int32 → (Nat → Nat → Int32) → Option ((Int32 ⊕ Nat) × (Nat → Nat → Int32))) (k2 : ∀ (x1 : Int32) (x2 : Int32) (I : (Nat → Nat → Int32)) (r : ((Int32 ⊕ Nat) × (Nat → Nat → Int32))), c2 x1 x2 I = some r → tt (d + 4) me_95 bk_95_2 [some (.ref 58), some (.int x1), some (.int x2)] [] (cw κ cs I J W) (xi r.1) (cw κ (xc cs r.1) r.2 J W)) (x1 : Int32) (x2 : Int32) (I : (Nat → Nat → Int32)) (r : ((Int32 ⊕ Nat) × (Nat → Nat → Int32))) (h : bd_95_2  c2 x1 x2 I = some r) : tt (d + 4) me_95 bk_95_2 [some (.ref 58), some (.int x1), some (.int x2)] [] (cw κ cs I J W) (xi r.1) (cw κ (xc cs r.1) r.2 J W) :=
  tt_I (L1 := (bk_95_2.drop 3)) (L2 := bk_95_3) 3 [some (.ref 58), some (.int x1), some (.int x2)] [] (cw κ cs I J W) h (fun _ => rfl) (fun h =>
  tt_C (L1 := (bk_95_2.drop 6)) 3 [some (.ref 58), some (.int x1), some (.int x2)] [] (cw κ cs I J W) h (fun _ => rfl) (fun _ e => m_116 (d := d) e) fun q4 h =>
  tt_J (L1 := bk_95_2) 1 [some (.ref 58), some (.int x1), some (.int (x2 + (1 : Int32)))] [] (cw κ cs q4 J W) (fun _ => rfl) (tt_F [some (.ref 58), some (.int x1), some (.int (x2 + (1 : Int32)))] (And.intro rfl (And.intro rfl (And.intro rfl trivial))) (k2 x1 (x2 + (1 : Int32)) q4 _ h))) (fun h =>
  tt_C (L1 := (bk_95_3.drop 2)) 2 [some (.ref 58), some (.int x1), some (.int x2)] [] (cw κ cs I J W) h (fun _ => rfl) (fun _ e => m_117 (d := d + 2) e) fun q3 h =>
  tt_R 1 (fun r => (xi r.1)) (fun r => (cw κ (xc cs r.1) r.2 J W)) h (fun _ => rfl))
theorem tn_95_2 {d : Nat} {κ : KT} {cs : Nat × Nat} {J : Nat → Nat → Int64} {W : Nat} : ∀ (n : Nat) (x1 : Int32) (x2 : Int32) (I : (Nat → Nat → Int32)) (r : ((Int32 ⊕ Nat) × (Nat → Nat → Int32))), fx (fun _ _ _ => none) (bd_95_2 ) n x1 x2 I = some r → tt (d + 4) me_95 bk_95_2 [some (.ref 58), some (.int x1), some (.int x2)] [] (cw κ cs I J W) (xi r.1) (cw κ (xc cs r.1) r.2 J W)
  | 0 => fun _ _ _ _ h => nomatch h
  | n + 1 => fun x1 x2 I r h => tb_95_2  (fx _ (bd_95_2 ) n) (tn_95_2  n) x1 x2 I r h
theorem tl_95_2 {d : Nat} {κ : KT} {cs : Nat × Nat} {J : Nat → Nat → Int64} {W : Nat} (x1 : Int32) (x2 : Int32) (I : (Nat → Nat → Int32)) (r : ((Int32 ⊕ Nat) × (Nat → Nat → Int32))) (h : lb_95_2  x1 x2 I = some r) : tt (d + 4) me_95 bk_95_2 [some (.ref 58), some (.int x1), some (.int x2)] [] (cw κ cs I J W) (xi r.1) (cw κ (xc cs r.1) r.2 J W) := tn_95_2  FU x1 x2 I r h
theorem m_95 {d : Nat} {κ : KT} {cs : Nat × Nat} {J : Nat → Nat → Int64} {W : Nat} {x1 : Int32} {I : (Nat → Nat → Int32)} {r : ((Int32 ⊕ Nat) × (Nat → Nat → Int32))} (h : f_95 x1 I = some r) : tm (d + 4) 95 [.ref 58, .int x1] (cw κ cs I J W) (xi r.1) (cw κ (xc cs r.1) r.2 J W) :=
  tm_of me_95 rfl (Nat.le_of_ble_eq_true rfl) (
  tt_C (L1 := (bk_95_0.drop 4)) 4 [some (.ref 58), some (.int x1), none] [] (cw κ cs I J W) h (fun _ => rfl) (fun _ e => m_122 (d := d + 3) e) fun q1 h =>
  tt_I (L1 := (bk_95_0.drop 5)) (L2 := bk_95_1) 1 [some (.ref 58), some (.int x1), none] [] (cw κ cs I J W) h (fun _ => rfl) (fun h =>
  tt_R 1 (fun r => (xi r.1)) (fun r => (cw κ (xc cs r.1) r.2 J W)) h (fun _ => rfl)) (fun h =>
  tt_C (L1 := (bk_95_1.drop 2)) 2 [some (.ref 58), some (.int x1), none] [] (cw κ cs I J W) h (fun _ => rfl) (fun _ e => m_115 (d := d + 3) e) fun q2 h =>
  tt_J (L1 := bk_95_2) 1 [some (.ref 58), some (.int x1), some (.int (0 : Int32))] [] (cw κ cs q2 J W) (fun _ => rfl) (tt_F [some (.ref 58), some (.int x1), some (.int (0 : Int32))] (And.intro rfl (And.intro rfl (And.intro rfl trivial))) (tl_95_2  x1 (0 : Int32) q2 _ h))))
/- 96 -/
def bd_96_1 (c1 : Int32 → (Nat → Nat → Int32) → Option (Int32 × (Nat → Nat → Int32))) (x1 : Int32) (I : (Nat → Nat → Int32)) : Option (Int32 × (Nat → Nat → Int32)) :=
  (if (60 : Int32) < x1 then (some (((-1) : Int32), I)) else ((f_117  I).bind fun q2 => (if q2 = ((-1) : Int32) then ((f_116 x1 I).bind fun q3 => (c1 (x1 + (1 : Int32)) q3)) else (some (x1, I)))))
def lb_96_1 : Int32 → (Nat → Nat → Int32) → Option (Int32 × (Nat → Nat → Int32)) := fx (fun _ _ => none) (bd_96_1 ) FU
def f_96 (I : (Nat → Nat → Int32)) : Option (Int32 × (Nat → Nat → Int32)) :=
  ((f_115  I).bind fun q1 => (lb_96_1  (0 : Int32) q1))
theorem tb_96_1 {d : Nat} {κ : KT} {cs : Nat × Nat} {J : Nat → Nat → Int64} {W : Nat} (c1 : Int32 → (Nat → Nat → Int32) → Option (Int32 × (Nat → Nat → Int32))) (k1 : ∀ (x1 : Int32) (I : (Nat → Nat → Int32)) (r : (Int32 × (Nat → Nat → Int32))), c1 x1 I = some r → tt (d + 4) me_96 bk_96_1 [some (.ref 58), some (.int x1)] [] (cw κ cs I J W) (.inl (some (.int r.1))) (cw κ cs r.2 J W)) (x1 : Int32) (I : (Nat → Nat → Int32)) (r : (Int32 × (Nat → Nat → Int32))) (h : bd_96_1  c1 x1 I = some r) : tt (d + 4) me_96 bk_96_1 [some (.ref 58), some (.int x1)] [] (cw κ cs I J W) (.inl (some (.int r.1))) (cw κ cs r.2 J W) :=
  tt_I (L1 := bk_96_3) (L2 := (bk_96_1.drop 3)) 3 [some (.ref 58), some (.int x1)] [] (cw κ cs I J W) h (fun _ => rfl) (fun h =>
  tt_R 2 (fun r => (.inl (some (.int r.1)))) (fun r => (cw κ cs r.2 J W)) h (fun _ => rfl)) (fun h =>
  tt_C (L1 := (bk_96_1.drop 5)) 2 [some (.ref 58), some (.int x1)] [] (cw κ cs I J W) h (fun _ => rfl) (fun _ e => m_117 (d := d + 2) e) fun q2 h =>
  tt_I (L1 := bk_96_2) (L2 := (bk_96_1.drop 7)) 2 [some (.ref 58), some (.int x1)] [] (cw κ cs I J W) h (fun _ => rfl) (fun h =>
  tt_C (L1 := (bk_96_2.drop 3)) 3 [some (.ref 58), some (.int x1)] [] (cw κ cs I J W) h (fun _ => rfl) (fun _ e => m_116 (d := d) e) fun q3 h =>
  tt_J (L1 := bk_96_1) 1 [some (.ref 58), some (.int (x1 + (1 : Int32)))] [] (cw κ cs q3 J W) (fun _ => rfl) (tt_F [some (.ref 58), some (.int (x1 + (1 : Int32)))] (And.intro rfl (And.intro rfl trivial)) (k1 (x1 + (1 : Int32)) q3 _ h))) (fun h =>
  tt_R 2 (fun r => (.inl (some (.int r.1)))) (fun r => (cw κ cs r.2 J W)) h (fun _ => rfl)))
theorem tn_96_1 {d : Nat} {κ : KT} {cs : Nat × Nat} {J : Nat → Nat → Int64} {W : Nat} : ∀ (n : Nat) (x1 : Int32) (I : (Nat → Nat → Int32)) (r : (Int32 × (Nat → Nat → Int32))), fx (fun _ _ => none) (bd_96_1 ) n x1 I = some r → tt (d + 4) me_96 bk_96_1 [some (.ref 58), some (.int x1)] [] (cw κ cs I J W) (.inl (some (.int r.1))) (cw κ cs r.2 J W)
  | 0 => fun _ _ _ h => nomatch h
  | n + 1 => fun x1 I r h => tb_96_1  (fx _ (bd_96_1 ) n) (tn_96_1  n) x1 I r h
theorem tl_96_1 {d : Nat} {κ : KT} {cs : Nat × Nat} {J : Nat → Nat → Int64} {W : Nat} (x1 : Int32) (I : (Nat → Nat → Int32)) (r : (Int32 × (Nat → Nat → Int32))) (h : lb_96_1  x1 I = some r) : tt (d + 4) me_96 bk_96_1 [some (.ref 58), some (.int x1)] [] (cw κ cs I J W) (.inl (some (.int r.1))) (cw κ cs r.2 J W) := tn_96_1  FU x1 I r h
theorem m_96 {d : Nat} {κ : KT} {cs : Nat × Nat} {J : Nat → Nat → Int64} {W : Nat} {I : (Nat → Nat → Int32)} {r : (Int32 × (Nat → Nat → Int32))} (h : f_96  I = some r) : tm (d + 4) 96 [.ref 58] (cw κ cs I J W) (.inl (some (.int r.1))) (cw κ cs r.2 J W) :=
  tm_of me_96 rfl (Nat.le_of_ble_eq_true rfl) (
  tt_C (L1 := (bk_96_0.drop 2)) 2 [some (.ref 58), none] [] (cw κ cs I J W) h (fun _ => rfl) (fun _ e => m_115 (d := d + 3) e) fun q1 h =>
  tt_J (L1 := bk_96_1) 1 [some (.ref 58), some (.int (0 : Int32))] [] (cw κ cs q1 J W) (fun _ => rfl) (tt_F [some (.ref 58), some (.int (0 : Int32))] (And.intro rfl (And.intro rfl trivial)) (tl_96_1  (0 : Int32) q1 _ h)))
/- 97 -/
def lb_97_3 (x3 : Int32) (I : (Nat → Nat → Int32)) : Option ((Int32 ⊕ Nat) × (Nat → Nat → Int32)) :=
  (some ((.inl x3), I))
def f_97 (x1 : Int32) (x2 : Int32) (I : (Nat → Nat → Int32)) : Option ((Int32 ⊕ Nat) × (Nat → Nat → Int32)) :=
  ((f_56 x1 I).bind fun q1 => (if q1 = 0 then (some ((.inr 1), I)) else ((f_122 x2 (1 : Int32) (5 : Int32) ).bind fun q2 => (if q2 = 0 then (some ((.inr 0), I)) else ((f_82 x1 x2 I).bind fun q3 => (if 0 < q3.1 then ((f_83  q3.2).bind fun q4 => (lb_97_3  q3.1 q4)) else (lb_97_3  q3.1 q3.2)))))))
theorem tl_97_3 {d : Nat} {κ : KT} {cs : Nat × Nat} {J : Nat → Nat → Int64} {W : Nat} (x3 : Int32) (I : (Nat → Nat → Int32)) (r : ((Int32 ⊕ Nat) × (Nat → Nat → Int32))) (h : lb_97_3  x3 I = some r) : tt (d + 13) me_97 bk_97_3 [none, none, none, some (.int x3)] [] (cw κ cs I J W) (xi r.1) (cw κ (xc cs r.1) r.2 J W) :=
  tt_R 2 (fun r => (xi r.1)) (fun r => (cw κ (xc cs r.1) r.2 J W)) h (fun _ => rfl)
theorem m_97 {d : Nat} {κ : KT} {cs : Nat × Nat} {J : Nat → Nat → Int64} {W : Nat} {x1 : Int32} {x2 : Int32} {I : (Nat → Nat → Int32)} {r : ((Int32 ⊕ Nat) × (Nat → Nat → Int32))} (h : f_97 x1 x2 I = some r) : tm (d + 13) 97 [.ref 58, .int x1, .int x2] (cw κ cs I J W) (xi r.1) (cw κ (xc cs r.1) r.2 J W) :=
  tm_of me_97 rfl (Nat.le_of_ble_eq_true rfl) (
  tt_C (L1 := (bk_97_0.drop 4)) 4 [some (.ref 58), some (.int x1), some (.int x2), none] [] (cw κ cs I J W) h (fun _ => rfl) (fun _ e => m_56 (d := d + 11) e) fun q1 h =>
  tt_I (L1 := (bk_97_0.drop 5)) (L2 := bk_97_1) 1 [some (.ref 58), some (.int x1), some (.int x2), none] [] (cw κ cs I J W) h (fun _ => rfl) (fun h =>
  tt_R 1 (fun r => (xi r.1)) (fun r => (cw κ (xc cs r.1) r.2 J W)) h (fun _ => rfl)) (fun h =>
  tt_C (L1 := (bk_97_1.drop 4)) 4 [some (.ref 58), some (.int x1), some (.int x2), none] [] (cw κ cs I J W) h (fun _ => rfl) (fun _ e => m_122 (d := d + 12) e) fun q2 h =>
  tt_I (L1 := (bk_97_1.drop 5)) (L2 := bk_97_2) 1 [some (.ref 58), some (.int x1), some (.int x2), none] [] (cw κ cs I J W) h (fun _ => rfl) (fun h =>
  tt_R 1 (fun r => (xi r.1)) (fun r => (cw κ (xc cs r.1) r.2 J W)) h (fun _ => rfl)) (fun h =>
  tt_C (L1 := (bk_97_2.drop 5)) 5 [some (.ref 58), some (.int x1), some (.int x2), none] [] (cw κ cs I J W) h (fun _ => rfl) (fun _ e => m_82 (d := d) e) fun q3 h =>
  tt_I (L1 := (bk_97_2.drop 8)) (L2 := bk_97_3) 3 [some (.ref 58), some (.int x1), some (.int x2), some (.int q3.1)] [] (cw κ cs q3.2 J W) h (fun _ => rfl) (fun h =>
  tt_C (L1 := bk_97_3) 3 [some (.ref 58), some (.int x1), some (.int x2), some (.int q3.1)] [] (cw κ cs q3.2 J W) h (fun _ => rfl) (fun _ e => m_83 (d := d + 12) e) fun q4 h =>
  tt_F [none, none, none, some (.int q3.1)] (And.intro rfl trivial) (tl_97_3  q3.1 q4 _ h)) (fun h =>
  tt_F [none, none, none, some (.int q3.1)] (And.intro rfl trivial) (tl_97_3  q3.1 q3.2 _ h)))))
/- 98 -/
def lb_98_1 (I : (Nat → Nat → Int32)) : Option (Int32 ⊕ Nat) :=
  (some (.inr 1))
def f_98 (x1 : Int32) (I : (Nat → Nat → Int32)) : Option (Int32 ⊕ Nat) :=
  (if x1 < 0 then (lb_98_1   I) else (if x1 < (I 84 6) then ((f_84 x1 I).bind fun q1 => (some (.inl q1))) else (lb_98_1   I)))
theorem tl_98_1 {d : Nat} {κ : KT} {cs : Nat × Nat} {J : Nat → Nat → Int64} {W : Nat} (I : (Nat → Nat → Int32)) (r : (Int32 ⊕ Nat)) (h : lb_98_1   I = some r) : tt (d + 2) me_98 bk_98_1 [none, none] [] (cw κ cs I J W) (xi r) (cw κ (xc cs r) I J W) :=
  tt_R 1 (fun r => (xi r)) (fun r => (cw κ (xc cs r) I J W)) h (fun _ => rfl)
theorem m_98 {d : Nat} {κ : KT} {cs : Nat × Nat} {J : Nat → Nat → Int64} {W : Nat} {x1 : Int32} {I : (Nat → Nat → Int32)} {r : (Int32 ⊕ Nat)} (h : f_98 x1 I = some r) : tm (d + 2) 98 [.ref 58, .int x1] (cw κ cs I J W) (xi r) (cw κ (xc cs r) I J W) :=
  tm_of me_98 rfl (Nat.le_of_ble_eq_true rfl) (
  tt_I (L1 := bk_98_1) (L2 := (bk_98_0.drop 2)) 2 [some (.ref 58), some (.int x1)] [] (cw κ cs I J W) h (fun _ => rfl) (fun h =>
  tt_F [none, none] trivial (tl_98_1   I _ h)) (fun h =>
  tt_I (L1 := bk_98_2) (L2 := bk_98_1) 5 [some (.ref 58), some (.int x1)] [] (cw κ cs I J W) h (fun _ => rfl) (fun h =>
  tt_C (L1 := (bk_98_2.drop 4)) 4 [some (.ref 58), some (.int x1)] [] (cw κ cs I J W) h (fun _ => rfl) (fun _ e => m_84 (d := d) e) fun q1 h =>
  tt_R 1 (fun r => (xi r)) (fun r => (cw κ (xc cs r) I J W)) h (fun _ => rfl)) (fun h =>
  tt_F [none, none] trivial (tl_98_1   I _ h))))
/- 99 -/
def bd_99_2 (c2 : Int32 → Int32 → (Nat → Nat → Int32) → Option ((Int32 ⊕ Nat) × (Nat → Nat → Int32))) (x1 : Int32) (x2 : Int32) (I : (Nat → Nat → Int32)) : Option ((Int32 ⊕ Nat) × (Nat → Nat → Int32)) :=
  (if (5 : Int32) < x2 then (some ((.inl ((-1) : Int32)), I)) else ((f_82 x1 x2 I).bind fun q2 => (if 0 < q2.1 then (some ((.inl x2), q2.2)) else (c2 x1 (x2 + (1 : Int32)) q2.2))))
def lb_99_2 : Int32 → Int32 → (Nat → Nat → Int32) → Option ((Int32 ⊕ Nat) × (Nat → Nat → Int32)) := fx (fun _ _ _ => none) (bd_99_2 ) FU
def f_99 (x1 : Int32) (I : (Nat → Nat → Int32)) : Option ((Int32 ⊕ Nat) × (Nat → Nat → Int32)) :=
  ((f_56 x1 I).bind fun q1 => (if q1 = 0 then (some ((.inr 1), I)) else (lb_99_2  x1 (1 : Int32) I)))
theorem tb_99_2 {d : Nat} {κ : KT} {cs : Nat × Nat} {J : Nat → Nat → Int64} {W : Nat} (c2 : Int32 → Int32 → (Nat → Nat → Int32) → Option ((Int32 ⊕ Nat) × (Nat → Nat → Int32))) (k2 : ∀ (x1 : Int32) (x2 : Int32) (I : (Nat → Nat → Int32)) (r : ((Int32 ⊕ Nat) × (Nat → Nat → Int32))), c2 x1 x2 I = some r → tt (d + 13) me_99 bk_99_2 [some (.ref 58), some (.int x1), some (.int x2)] [] (cw κ cs I J W) (xi r.1) (cw κ (xc cs r.1) r.2 J W)) (x1 : Int32) (x2 : Int32) (I : (Nat → Nat → Int32)) (r : ((Int32 ⊕ Nat) × (Nat → Nat → Int32))) (h : bd_99_2  c2 x1 x2 I = some r) : tt (d + 13) me_99 bk_99_2 [some (.ref 58), some (.int x1), some (.int x2)] [] (cw κ cs I J W) (xi r.1) (cw κ (xc cs r.1) r.2 J W) :=
  tt_I (L1 := bk_99_4) (L2 := (bk_99_2.drop 3)) 3 [some (.ref 58), some (.int x1), some (.int x2)] [] (cw κ cs I J W) h (fun _ => rfl) (fun h =>
  tt_R 2 (fun r => (xi r.1)) (fun r => (cw κ (xc cs r.1) r.2 J W)) h (fun _ => rfl)) (fun h =>
  tt_C (L1 := (bk_99_2.drop 8)) 5 [some (.ref 58), some (.int x1), some (.int x2)] [] (cw κ cs I J W) h (fun _ => rfl) (fun _ e => m_82 (d := d) e) fun q2 h =>
  tt_I (L1 := (bk_99_2.drop 9)) (L2 := bk_99_3) 1 [some (.ref 58), some (.int x1), some (.int x2)] [] (cw κ cs q2.2 J W) h (fun _ => rfl) (fun h =>
  tt_R 2 (fun r => (xi r.1)) (fun r => (cw κ (xc cs r.1) r.2 J W)) h (fun _ => rfl)) (fun h =>
  tt_J (L1 := bk_99_2) 1 [some (.ref 58), some (.int x1), some (.int (x2 + (1 : Int32)))] [] (cw κ cs q2.2 J W) (fun _ => rfl) (tt_F [some (.ref 58), some (.int x1), some (.int (x2 + (1 : Int32)))] (And.intro rfl (And.intro rfl (And.intro rfl trivial))) (k2 x1 (x2 + (1 : Int32)) q2.2 _ h))))
theorem tn_99_2 {d : Nat} {κ : KT} {cs : Nat × Nat} {J : Nat → Nat → Int64} {W : Nat} : ∀ (n : Nat) (x1 : Int32) (x2 : Int32) (I : (Nat → Nat → Int32)) (r : ((Int32 ⊕ Nat) × (Nat → Nat → Int32))), fx (fun _ _ _ => none) (bd_99_2 ) n x1 x2 I = some r → tt (d + 13) me_99 bk_99_2 [some (.ref 58), some (.int x1), some (.int x2)] [] (cw κ cs I J W) (xi r.1) (cw κ (xc cs r.1) r.2 J W)
  | 0 => fun _ _ _ _ h => nomatch h
  | n + 1 => fun x1 x2 I r h => tb_99_2  (fx _ (bd_99_2 ) n) (tn_99_2  n) x1 x2 I r h
theorem tl_99_2 {d : Nat} {κ : KT} {cs : Nat × Nat} {J : Nat → Nat → Int64} {W : Nat} (x1 : Int32) (x2 : Int32) (I : (Nat → Nat → Int32)) (r : ((Int32 ⊕ Nat) × (Nat → Nat → Int32))) (h : lb_99_2  x1 x2 I = some r) : tt (d + 13) me_99 bk_99_2 [some (.ref 58), some (.int x1), some (.int x2)] [] (cw κ cs I J W) (xi r.1) (cw κ (xc cs r.1) r.2 J W) := tn_99_2  FU x1 x2 I r h
theorem m_99 {d : Nat} {κ : KT} {cs : Nat × Nat} {J : Nat → Nat → Int64} {W : Nat} {x1 : Int32} {I : (Nat → Nat → Int32)} {r : ((Int32 ⊕ Nat) × (Nat → Nat → Int32))} (h : f_99 x1 I = some r) : tm (d + 13) 99 [.ref 58, .int x1] (cw κ cs I J W) (xi r.1) (cw κ (xc cs r.1) r.2 J W) :=
  tm_of me_99 rfl (Nat.le_of_ble_eq_true rfl) (
  tt_C (L1 := (bk_99_0.drop 4)) 4 [some (.ref 58), some (.int x1), none] [] (cw κ cs I J W) h (fun _ => rfl) (fun _ e => m_56 (d := d + 11) e) fun q1 h =>
  tt_I (L1 := (bk_99_0.drop 5)) (L2 := bk_99_1) 1 [some (.ref 58), some (.int x1), none] [] (cw κ cs I J W) h (fun _ => rfl) (fun h =>
  tt_R 1 (fun r => (xi r.1)) (fun r => (cw κ (xc cs r.1) r.2 J W)) h (fun _ => rfl)) (fun h =>
  tt_J (L1 := bk_99_2) 1 [some (.ref 58), some (.int x1), some (.int (1 : Int32))] [] (cw κ cs I J W) (fun _ => rfl) (tt_F [some (.ref 58), some (.int x1), some (.int (1 : Int32))] (And.intro rfl (And.intro rfl (And.intro rfl trivial))) (tl_99_2  x1 (1 : Int32) I _ h))))
/- 118 -/
def lb_118_2 (x2 : Int64) (I : (Nat → Nat → Int32)) : Option Int64 :=
  (some x2)
def bd_118_1 (c1 : Int32 → Int64 → Int32 → Int32 → (Nat → Nat → Int32) → Option Int64) (x1 : Int32) (x2 : Int64) (x4 : Int32) (x5 : Int32) (I : (Nat → Nat → Int32)) : Option Int64 :=
  (if x5 < (60 : Int32) then (if x4 = x1 then (lb_118_2  x2 I) else ((f_10 x4 I).bind fun q2 => (c1 x1 (x2 ||| ((1 : Int64) <<< ((x4).toInt64 &&& 63))) q2 (x5 + (1 : Int32)) I))) else (lb_118_2  x2 I))
def lb_118_1 : Int32 → Int64 → Int32 → Int32 → (Nat → Nat → Int32) → Option Int64 := fx (fun _ _ _ _ _ => none) (bd_118_1 ) FU
def f_118 (x1 : Int32) (I : (Nat → Nat → Int32)) : Option Int64 :=
  ((f_10 x1 I).bind fun q1 => (lb_118_1  x1 ((1 : Int64) <<< ((x1).toInt64 &&& 63)) q1 (0 : Int32) I))
theorem tl_118_2 {d : Nat} {κ : KT} {cs : Nat × Nat} {J : Nat → Nat → Int64} {W : Nat} (x2 : Int64) (I : (Nat → Nat → Int32)) (r : Int64) (h : lb_118_2  x2 I = some r) : tt (d + 3) me_118 bk_118_2 [none, none, some (.long x2), none, none, none] [] (cw κ cs I J W) (.inl (some (.long r))) (cw κ cs I J W) :=
  tt_R 2 (fun r => (.inl (some (.long r)))) (fun r => (cw κ cs I J W)) h (fun _ => rfl)
theorem tb_118_1 {d : Nat} {κ : KT} {cs : Nat × Nat} {J : Nat → Nat → Int64} {W : Nat} (c1 : Int32 → Int64 → Int32 → Int32 → (Nat → Nat → Int32) → Option Int64) (k1 : ∀ (x1 : Int32) (x2 : Int64) (x4 : Int32) (x5 : Int32) (I : (Nat → Nat → Int32)) (r : Int64), c1 x1 x2 x4 x5 I = some r → tt (d + 3) me_118 bk_118_1 [some (.ref 58), some (.int x1), some (.long x2), none, some (.int x4), some (.int x5)] [] (cw κ cs I J W) (.inl (some (.long r))) (cw κ cs I J W)) (x1 : Int32) (x2 : Int64) (x4 : Int32) (x5 : Int32) (I : (Nat → Nat → Int32)) (r : Int64) (h : bd_118_1  c1 x1 x2 x4 x5 I = some r) : tt (d + 3) me_118 bk_118_1 [some (.ref 58), some (.int x1), some (.long x2), none, some (.int x4), some (.int x5)] [] (cw κ cs I J W) (.inl (some (.long r))) (cw κ cs I J W) :=
  tt_I (L1 := (bk_118_1.drop 3)) (L2 := bk_118_2) 3 [some (.ref 58), some (.int x1), some (.long x2), none, some (.int x4), some (.int x5)] [] (cw κ cs I J W) h (fun _ => rfl) (fun h =>
  tt_I (L1 := bk_118_2) (L2 := (bk_118_1.drop 6)) 3 [some (.ref 58), some (.int x1), some (.long x2), none, some (.int x4), some (.int x5)] [] (cw κ cs I J W) h (fun _ => rfl) (fun h =>
  tt_F [none, none, some (.long x2), none, none, none] (And.intro rfl trivial) (tl_118_2  x2 I _ h)) (fun h =>
  tt_C (L1 := (bk_118_1.drop 16)) 10 [some (.ref 58), some (.int x1), some (.long (x2 ||| ((1 : Int64) <<< ((x4).toInt64 &&& 63)))), none, some (.int x4), some (.int x5)] [] (cw κ cs I J W) h (fun _ => rfl) (fun _ e => m_10 (d := d) e) fun q2 h =>
  tt_J (L1 := bk_118_1) 2 [some (.ref 58), some (.int x1), some (.long (x2 ||| ((1 : Int64) <<< ((x4).toInt64 &&& 63)))), none, some (.int q2), some (.int (x5 + (1 : Int32)))] [] (cw κ cs I J W) (fun _ => rfl) (tt_F [some (.ref 58), some (.int x1), some (.long (x2 ||| ((1 : Int64) <<< ((x4).toInt64 &&& 63)))), none, some (.int q2), some (.int (x5 + (1 : Int32)))] (And.intro rfl (And.intro rfl (And.intro rfl (And.intro rfl (And.intro rfl trivial))))) (k1 x1 (x2 ||| ((1 : Int64) <<< ((x4).toInt64 &&& 63))) q2 (x5 + (1 : Int32)) I _ h)))) (fun h =>
  tt_F [none, none, some (.long x2), none, none, none] (And.intro rfl trivial) (tl_118_2  x2 I _ h))
theorem tn_118_1 {d : Nat} {κ : KT} {cs : Nat × Nat} {J : Nat → Nat → Int64} {W : Nat} : ∀ (n : Nat) (x1 : Int32) (x2 : Int64) (x4 : Int32) (x5 : Int32) (I : (Nat → Nat → Int32)) (r : Int64), fx (fun _ _ _ _ _ => none) (bd_118_1 ) n x1 x2 x4 x5 I = some r → tt (d + 3) me_118 bk_118_1 [some (.ref 58), some (.int x1), some (.long x2), none, some (.int x4), some (.int x5)] [] (cw κ cs I J W) (.inl (some (.long r))) (cw κ cs I J W)
  | 0 => fun _ _ _ _ _ _ h => nomatch h
  | n + 1 => fun x1 x2 x4 x5 I r h => tb_118_1  (fx _ (bd_118_1 ) n) (tn_118_1  n) x1 x2 x4 x5 I r h
theorem tl_118_1 {d : Nat} {κ : KT} {cs : Nat × Nat} {J : Nat → Nat → Int64} {W : Nat} (x1 : Int32) (x2 : Int64) (x4 : Int32) (x5 : Int32) (I : (Nat → Nat → Int32)) (r : Int64) (h : lb_118_1  x1 x2 x4 x5 I = some r) : tt (d + 3) me_118 bk_118_1 [some (.ref 58), some (.int x1), some (.long x2), none, some (.int x4), some (.int x5)] [] (cw κ cs I J W) (.inl (some (.long r))) (cw κ cs I J W) := tn_118_1  FU x1 x2 x4 x5 I r h
theorem m_118 {d : Nat} {κ : KT} {cs : Nat × Nat} {J : Nat → Nat → Int64} {W : Nat} {x1 : Int32} {I : (Nat → Nat → Int32)} {r : Int64} (h : f_118 x1 I = some r) : tm (d + 3) 118 [.ref 58, .int x1] (cw κ cs I J W) (.inl (some (.long r))) (cw κ cs I J W) :=
  tm_of me_118 rfl (Nat.le_of_ble_eq_true rfl) (
  tt_C (L1 := (bk_118_0.drop 8)) 8 [some (.ref 58), some (.int x1), some (.long ((1 : Int64) <<< ((x1).toInt64 &&& 63))), none, none, none] [] (cw κ cs I J W) h (fun _ => rfl) (fun _ e => m_10 (d := d) e) fun q1 h =>
  tt_J (L1 := bk_118_1) 2 [some (.ref 58), some (.int x1), some (.long ((1 : Int64) <<< ((x1).toInt64 &&& 63))), none, some (.int q1), some (.int (0 : Int32))] [] (cw κ cs I J W) (fun _ => rfl) (tt_F [some (.ref 58), some (.int x1), some (.long ((1 : Int64) <<< ((x1).toInt64 &&& 63))), none, some (.int q1), some (.int (0 : Int32))] (And.intro rfl (And.intro rfl (And.intro rfl (And.intro rfl (And.intro rfl trivial))))) (tl_118_1  x1 ((1 : Int64) <<< ((x1).toInt64 &&& 63)) q1 (0 : Int32) I _ h)))
/- 124 -/
def lb_124_4 (s0 : Int64) : Option Int64 :=
  (some s0)
def lb_124_2 (x0 : Int64) (x2 : Int64) (x4 : Int64) : Option Int64 :=
  (if 0 < (lg_cmp x4 (0 : Int64)) then (if x4 = 0 then none else (lb_124_4  ((x0 / x4) * x2) )) else (lb_124_4  x0 ))
def bd_124_1 (c1 : Int64 → Int64 → Int64 → Int64 → Int32 → Option Int64) (x0 : Int64) (x2 : Int64) (x4 : Int64) (x6 : Int64) (x8 : Int32) : Option Int64 :=
  (if x8 < (60 : Int32) then (if 0 < (lg_cmp x6 (0 : Int64)) then (if x6 = 0 then none else (c1 x0 x2 x6 (x4 - x4 / x6 * x6) (x8 + (1 : Int32)) )) else (lb_124_2  x0 x2 x4 )) else (lb_124_2  x0 x2 x4 ))
def lb_124_1 : Int64 → Int64 → Int64 → Int64 → Int32 → Option Int64 := fx (fun _ _ _ _ _ => none) (bd_124_1 ) FU
def f_124 (x0 : Int64) (x2 : Int64) : Option Int64 :=
  (lb_124_1  x0 x2 x0 x2 (0 : Int32) )
theorem tl_124_4 {d : Nat} {κ : KT} {cs : Nat × Nat} {I : Nat → Nat → Int32} {J : Nat → Nat → Int64} {W : Nat} (s0 : Int64) (r : Int64) (h : lb_124_4  s0  = some r) : tt d me_124 bk_124_4 [none, none, none, none, none, none, none, none, none, none, none] [.long s0] (cw κ cs I J W) (.inl (some (.long r))) (cw κ cs I J W) :=
  tt_R 1 (fun r => (.inl (some (.long r)))) (fun r => (cw κ cs I J W)) h (fun _ => rfl)
theorem tl_124_2 {d : Nat} {κ : KT} {cs : Nat × Nat} {I : Nat → Nat → Int32} {J : Nat → Nat → Int64} {W : Nat} (x0 : Int64) (x2 : Int64) (x4 : Int64) (r : Int64) (h : lb_124_2  x0 x2 x4  = some r) : tt d me_124 bk_124_2 [some (.long x0), none, some (.long x2), none, some (.long x4), none, none, none, none, none, none] [] (cw κ cs I J W) (.inl (some (.long r))) (cw κ cs I J W) :=
  tt_I (L1 := (bk_124_2.drop 4)) (L2 := bk_124_3) 4 [some (.long x0), none, some (.long x2), none, some (.long x4), none, none, none, none, none, none] [] (cw κ cs I J W) h (fun _ => rfl) (fun h =>
  tt_J (L1 := (bk_124_2.drop 6)) 1 [some (.long x0), none, some (.long x2), none, some (.long x4), none, none, none, none, none, none] [.long x4, .long x0] (cw κ cs I J W) (fun _ => rfl) (
  tt_Dl h fun h =>
  tt_J (L1 := bk_124_4) 2 [some (.long x0), none, some (.long x2), none, some (.long x4), none, none, none, none, none, none] [.long ((x0 / x4) * x2)] (cw κ cs I J W) (fun _ => rfl) (tt_F [none, none, none, none, none, none, none, none, none, none, none] trivial (tl_124_4  ((x0 / x4) * x2)  _ h)))) (fun h =>
  tt_J (L1 := bk_124_4) 0 [some (.long x0), none, some (.long x2), none, some (.long x4), none, none, none, none, none, none] [.long x0] (cw κ cs I J W) (fun _ => rfl) (tt_F [none, none, none, none, none, none, none, none, none, none, none] trivial (tl_124_4  x0  _ h)))
theorem tb_124_1 {d : Nat} {κ : KT} {cs : Nat × Nat} {I : Nat → Nat → Int32} {J : Nat → Nat → Int64} {W : Nat} (c1 : Int64 → Int64 → Int64 → Int64 → Int32 → Option Int64) (k1 : ∀ (x0 : Int64) (x2 : Int64) (x4 : Int64) (x6 : Int64) (x8 : Int32) (r : Int64), c1 x0 x2 x4 x6 x8  = some r → tt d me_124 bk_124_1 [some (.long x0), none, some (.long x2), none, some (.long x4), none, some (.long x6), none, some (.int x8), none, none] [] (cw κ cs I J W) (.inl (some (.long r))) (cw κ cs I J W)) (x0 : Int64) (x2 : Int64) (x4 : Int64) (x6 : Int64) (x8 : Int32) (r : Int64) (h : bd_124_1  c1 x0 x2 x4 x6 x8  = some r) : tt d me_124 bk_124_1 [some (.long x0), none, some (.long x2), none, some (.long x4), none, some (.long x6), none, some (.int x8), none, none] [] (cw κ cs I J W) (.inl (some (.long r))) (cw κ cs I J W) :=
  tt_I (L1 := (bk_124_1.drop 3)) (L2 := bk_124_2) 3 [some (.long x0), none, some (.long x2), none, some (.long x4), none, some (.long x6), none, some (.int x8), none, none] [] (cw κ cs I J W) h (fun _ => rfl) (fun h =>
  tt_I (L1 := (bk_124_1.drop 7)) (L2 := bk_124_2) 4 [some (.long x0), none, some (.long x2), none, some (.long x4), none, some (.long x6), none, some (.int x8), none, none] [] (cw κ cs I J W) h (fun _ => rfl) (fun h =>
  tt_J (L1 := (bk_124_1.drop 9)) 1 [some (.long x0), none, some (.long x2), none, some (.long x4), none, some (.long x6), none, some (.int x8), none, none] [.long x6, .long x4] (cw κ cs I J W) (fun _ => rfl) (
  tt_Dm h fun h =>
  tt_J (L1 := bk_124_1) 6 [some (.long x0), none, some (.long x2), none, some (.long x6), none, some (.long (x4 - x4 / x6 * x6)), none, some (.int (x8 + (1 : Int32))), some (.long (x4 - x4 / x6 * x6)), none] [] (cw κ cs I J W) (fun _ => rfl) (tt_F [some (.long x0), none, some (.long x2), none, some (.long x6), none, some (.long (x4 - x4 / x6 * x6)), none, some (.int (x8 + (1 : Int32))), none, none] (And.intro rfl (And.intro rfl (And.intro rfl (And.intro rfl (And.intro rfl trivial))))) (k1 x0 x2 x6 (x4 - x4 / x6 * x6) (x8 + (1 : Int32))  _ h)))) (fun h =>
  tt_F [some (.long x0), none, some (.long x2), none, some (.long x4), none, none, none, none, none, none] (And.intro rfl (And.intro rfl (And.intro rfl trivial))) (tl_124_2  x0 x2 x4  _ h))) (fun h =>
  tt_F [some (.long x0), none, some (.long x2), none, some (.long x4), none, none, none, none, none, none] (And.intro rfl (And.intro rfl (And.intro rfl trivial))) (tl_124_2  x0 x2 x4  _ h))
theorem tn_124_1 {d : Nat} {κ : KT} {cs : Nat × Nat} {I : Nat → Nat → Int32} {J : Nat → Nat → Int64} {W : Nat} : ∀ (n : Nat) (x0 : Int64) (x2 : Int64) (x4 : Int64) (x6 : Int64) (x8 : Int32) (r : Int64), fx (fun _ _ _ _ _ => none) (bd_124_1 ) n x0 x2 x4 x6 x8  = some r → tt d me_124 bk_124_1 [some (.long x0), none, some (.long x2), none, some (.long x4), none, some (.long x6), none, some (.int x8), none, none] [] (cw κ cs I J W) (.inl (some (.long r))) (cw κ cs I J W)
  | 0 => fun _ _ _ _ _ _ h => nomatch h
  | n + 1 => fun x0 x2 x4 x6 x8  r h => tb_124_1  (fx _ (bd_124_1 ) n) (tn_124_1  n) x0 x2 x4 x6 x8  r h
theorem tl_124_1 {d : Nat} {κ : KT} {cs : Nat × Nat} {I : Nat → Nat → Int32} {J : Nat → Nat → Int64} {W : Nat} (x0 : Int64) (x2 : Int64) (x4 : Int64) (x6 : Int64) (x8 : Int32) (r : Int64) (h : lb_124_1  x0 x2 x4 x6 x8  = some r) : tt d me_124 bk_124_1 [some (.long x0), none, some (.long x2), none, some (.long x4), none, some (.long x6), none, some (.int x8), none, none] [] (cw κ cs I J W) (.inl (some (.long r))) (cw κ cs I J W) := tn_124_1  FU x0 x2 x4 x6 x8  r h
theorem m_124 {d : Nat} {κ : KT} {cs : Nat × Nat} {I : Nat → Nat → Int32} {J : Nat → Nat → Int64} {W : Nat} {x0 : Int64} {x2 : Int64} {r : Int64} (h : f_124 x0 x2  = some r) : tm d 124 [.long x0, .long x2] (cw κ cs I J W) (.inl (some (.long r))) (cw κ cs I J W) :=
  tm_of me_124 rfl (Nat.le_of_ble_eq_true rfl) (
  tt_J (L1 := bk_124_1) 5 [some (.long x0), none, some (.long x2), none, some (.long x0), none, some (.long x2), none, some (.int (0 : Int32)), none, none] [] (cw κ cs I J W) (fun _ => rfl) (tt_F [some (.long x0), none, some (.long x2), none, some (.long x0), none, some (.long x2), none, some (.int (0 : Int32)), none, none] (And.intro rfl (And.intro rfl (And.intro rfl (And.intro rfl (And.intro rfl trivial))))) (tl_124_1  x0 x2 x0 x2 (0 : Int32)  _ h)))
/- 100 -/
def lb_100_3 (c2 : Int64 → Int64 → Int32 → (Nat → Nat → Int32) → Option ((Int64 ⊕ Nat) × (Nat → Nat → Int32))) (x5 : Int64) (x7 : Int64) (x9 : Int32) (I : (Nat → Nat → Int32)) : Option ((Int64 ⊕ Nat) × (Nat → Nat → Int32)) :=
  (c2 x5 x7 (x9 + (1 : Int32)) I)
def bd_100_2 (c2 : Int64 → Int64 → Int32 → (Nat → Nat → Int32) → Option ((Int64 ⊕ Nat) × (Nat → Nat → Int32))) (x5 : Int64) (x7 : Int64) (x9 : Int32) (I : (Nat → Nat → Int32)) : Option ((Int64 ⊕ Nat) × (Nat → Nat → Int32)) :=
  (if x9 < (I 79 4) then (if (lg_cmp (((x7).toUInt64 >>> ((x9).toInt64.toUInt64 &&& Int64.toUInt64 63)).toInt64 &&& (1 : Int64)) (0 : Int64)) = 0 then ((f_118 x9 I).bind fun q4 => ((f_210 q4 ).bind fun q5 => ((f_124 x5 (q5).toInt64 ).bind fun q6 => (lb_100_3 c2 q6 (x7 ||| q4) x9 I)))) else (lb_100_3 c2 x5 x7 x9 I)) else (some ((.inl x5), I)))
def lb_100_2 : Int64 → Int64 → Int32 → (Nat → Nat → Int32) → Option ((Int64 ⊕ Nat) × (Nat → Nat → Int32)) := fx (fun _ _ _ _ => none) (bd_100_2 ) FU
def f_100 (x1 : Int32) (x2 : Int32) (x3 : Int32) (x4 : Int32) (I : (Nat → Nat → Int32)) : Option ((Int64 ⊕ Nat) × (Nat → Nat → Int32)) :=
  ((f_58 x1 x2 x3 x4 I).bind fun q1 => (if q1 = 0 then (some ((.inr 0), I)) else ((f_3 x1 x2 I).bind fun q2 => ((f_4 x3 x4 x4 q2).bind fun q3 => (lb_100_2  (1 : Int64) (0 : Int64) (0 : Int32) q3)))))
theorem tl_100_3 {d : Nat} {κ : KT} {cs : Nat × Nat} {J : Nat → Nat → Int64} {W : Nat} (c2 : Int64 → Int64 → Int32 → (Nat → Nat → Int32) → Option ((Int64 ⊕ Nat) × (Nat → Nat → Int32))) (k2 : ∀ (x5 : Int64) (x7 : Int64) (x9 : Int32) (I : (Nat → Nat → Int32)) (r : ((Int64 ⊕ Nat) × (Nat → Nat → Int32))), c2 x5 x7 x9 I = some r → tt (d + 4) me_100 bk_100_2 [some (.ref 58), none, none, none, none, some (.long x5), none, some (.long x7), none, some (.int x9), none, none] [] (cw κ cs I J W) (xl r.1) (cw κ (xc cs r.1) r.2 J W)) (x5 : Int64) (x7 : Int64) (x9 : Int32) (I : (Nat → Nat → Int32)) (r : ((Int64 ⊕ Nat) × (Nat → Nat → Int32))) (h : lb_100_3 c2 x5 x7 x9 I = some r) : tt (d + 4) me_100 bk_100_3 [some (.ref 58), none, none, none, none, some (.long x5), none, some (.long x7), none, some (.int x9), none, none] [] (cw κ cs I J W) (xl r.1) (cw κ (xc cs r.1) r.2 J W) :=
  tt_J (L1 := bk_100_2) 1 [some (.ref 58), none, none, none, none, some (.long x5), none, some (.long x7), none, some (.int (x9 + (1 : Int32))), none, none] [] (cw κ cs I J W) (fun _ => rfl) (tt_F [some (.ref 58), none, none, none, none, some (.long x5), none, some (.long x7), none, some (.int (x9 + (1 : Int32))), none, none] (And.intro rfl (And.intro rfl (And.intro rfl (And.intro rfl trivial)))) (k2 x5 x7 (x9 + (1 : Int32)) I _ h))
theorem tb_100_2 {d : Nat} {κ : KT} {cs : Nat × Nat} {J : Nat → Nat → Int64} {W : Nat} (c2 : Int64 → Int64 → Int32 → (Nat → Nat → Int32) → Option ((Int64 ⊕ Nat) × (Nat → Nat → Int32))) (k2 : ∀ (x5 : Int64) (x7 : Int64) (x9 : Int32) (I : (Nat → Nat → Int32)) (r : ((Int64 ⊕ Nat) × (Nat → Nat → Int32))), c2 x5 x7 x9 I = some r → tt (d + 4) me_100 bk_100_2 [some (.ref 58), none, none, none, none, some (.long x5), none, some (.long x7), none, some (.int x9), none, none] [] (cw κ cs I J W) (xl r.1) (cw κ (xc cs r.1) r.2 J W)) (x5 : Int64) (x7 : Int64) (x9 : Int32) (I : (Nat → Nat → Int32)) (r : ((Int64 ⊕ Nat) × (Nat → Nat → Int32))) (h : bd_100_2  c2 x5 x7 x9 I = some r) : tt (d + 4) me_100 bk_100_2 [some (.ref 58), none, none, none, none, some (.long x5), none, some (.long x7), none, some (.int x9), none, none] [] (cw κ cs I J W) (xl r.1) (cw κ (xc cs r.1) r.2 J W) :=
  tt_I (L1 := (bk_100_2.drop 5)) (L2 := bk_100_4) 5 [some (.ref 58), none, none, none, none, some (.long x5), none, some (.long x7), none, some (.int x9), none, none] [] (cw κ cs I J W) h (fun _ => rfl) (fun h =>
  tt_I (L1 := (bk_100_2.drop 13)) (L2 := bk_100_3) 8 [some (.ref 58), none, none, none, none, some (.long x5), none, some (.long x7), none, some (.int x9), none, none] [] (cw κ cs I J W) h (fun _ => rfl) (fun h =>
  tt_C (L1 := (bk_100_2.drop 16)) 3 [some (.ref 58), none, none, none, none, some (.long x5), none, some (.long x7), none, some (.int x9), none, none] [] (cw κ cs I J W) h (fun _ => rfl) (fun _ e => m_118 (d := d) e) fun q4 h =>
  tt_C (L1 := (bk_100_2.drop 24)) 8 [some (.ref 58), none, none, none, none, some (.long x5), none, some (.long (x7 ||| q4)), none, some (.int x9), some (.long q4), none] [.long x5] (cw κ cs I J W) h (fun _ => rfl) (fun _ e => m_210 (d := d + 3) e) fun q5 h =>
  tt_C (L1 := (bk_100_2.drop 26)) 2 [some (.ref 58), none, none, none, none, some (.long x5), none, some (.long (x7 ||| q4)), none, some (.int x9), some (.long q4), none] [] (cw κ cs I J W) h (fun _ => rfl) (fun _ e => m_124 (d := d + 3) e) fun q6 h =>
  tt_J (L1 := bk_100_3) 0 [some (.ref 58), none, none, none, none, some (.long q6), none, some (.long (x7 ||| q4)), none, some (.int x9), some (.long q4), none] [] (cw κ cs I J W) (fun _ => rfl) (tt_F [some (.ref 58), none, none, none, none, some (.long q6), none, some (.long (x7 ||| q4)), none, some (.int x9), none, none] (And.intro rfl (And.intro rfl (And.intro rfl (And.intro rfl trivial)))) (tl_100_3 c2 k2 q6 (x7 ||| q4) x9 I _ h))) (fun h =>
  tt_F [some (.ref 58), none, none, none, none, some (.long x5), none, some (.long x7), none, some (.int x9), none, none] (And.intro rfl (And.intro rfl (And.intro rfl (And.intro rfl trivial)))) (tl_100_3 c2 k2 x5 x7 x9 I _ h))) (fun h =>
  tt_R 2 (fun r => (xl r.1)) (fun r => (cw κ (xc cs r.1) r.2 J W)) h (fun _ => rfl))
theorem tn_100_2 {d : Nat} {κ : KT} {cs : Nat × Nat} {J : Nat → Nat → Int64} {W : Nat} : ∀ (n : Nat) (x5 : Int64) (x7 : Int64) (x9 : Int32) (I : (Nat → Nat → Int32)) (r : ((Int64 ⊕ Nat) × (Nat → Nat → Int32))), fx (fun _ _ _ _ => none) (bd_100_2 ) n x5 x7 x9 I = some r → tt (d + 4) me_100 bk_100_2 [some (.ref 58), none, none, none, none, some (.long x5), none, some (.long x7), none, some (.int x9), none, none] [] (cw κ cs I J W) (xl r.1) (cw κ (xc cs r.1) r.2 J W)
  | 0 => fun _ _ _ _ _ h => nomatch h
  | n + 1 => fun x5 x7 x9 I r h => tb_100_2  (fx _ (bd_100_2 ) n) (tn_100_2  n) x5 x7 x9 I r h
theorem tl_100_2 {d : Nat} {κ : KT} {cs : Nat × Nat} {J : Nat → Nat → Int64} {W : Nat} (x5 : Int64) (x7 : Int64) (x9 : Int32) (I : (Nat → Nat → Int32)) (r : ((Int64 ⊕ Nat) × (Nat → Nat → Int32))) (h : lb_100_2  x5 x7 x9 I = some r) : tt (d + 4) me_100 bk_100_2 [some (.ref 58), none, none, none, none, some (.long x5), none, some (.long x7), none, some (.int x9), none, none] [] (cw κ cs I J W) (xl r.1) (cw κ (xc cs r.1) r.2 J W) := tn_100_2  FU x5 x7 x9 I r h
theorem m_100 {d : Nat} {κ : KT} {cs : Nat × Nat} {J : Nat → Nat → Int64} {W : Nat} {x1 : Int32} {x2 : Int32} {x3 : Int32} {x4 : Int32} {I : (Nat → Nat → Int32)} {r : ((Int64 ⊕ Nat) × (Nat → Nat → Int32))} (h : f_100 x1 x2 x3 x4 I = some r) : tm (d + 4) 100 [.ref 58, .int x1, .int x2, .int x3, .int x4] (cw κ cs I J W) (xl r.1) (cw κ (xc cs r.1) r.2 J W) :=
  tm_of me_100 rfl (Nat.le_of_ble_eq_true rfl) (
  tt_C (L1 := (bk_100_0.drop 7)) 7 [some (.ref 58), some (.int x1), some (.int x2), some (.int x3), some (.int x4), none, none, none, none, none, none, none] [] (cw κ cs I J W) h (fun _ => rfl) (fun _ e => m_58 (d := d + 1) e) fun q1 h =>
  tt_I (L1 := (bk_100_0.drop 8)) (L2 := bk_100_1) 1 [some (.ref 58), some (.int x1), some (.int x2), some (.int x3), some (.int x4), none, none, none, none, none, none, none] [] (cw κ cs I J W) h (fun _ => rfl) (fun h =>
  tt_R 1 (fun r => (xl r.1)) (fun r => (cw κ (xc cs r.1) r.2 J W)) h (fun _ => rfl)) (fun h =>
  tt_C (L1 := (bk_100_1.drop 5)) 5 [some (.ref 58), some (.int x1), some (.int x2), some (.int x3), some (.int x4), none, none, none, none, none, none, none] [] (cw κ cs I J W) h (fun _ => rfl) (fun _ e => m_3 (d := d + 3) e) fun q2 h =>
  tt_C (L1 := (bk_100_1.drop 11)) 6 [some (.ref 58), some (.int x1), some (.int x2), some (.int x3), some (.int x4), none, none, none, none, none, none, none] [] (cw κ cs q2 J W) h (fun _ => rfl) (fun _ e => m_4 (d := d) e) fun q3 h =>
  tt_J (L1 := bk_100_2) 5 [some (.ref 58), some (.int x1), some (.int x2), some (.int x3), some (.int x4), some (.long (1 : Int64)), none, some (.long (0 : Int64)), none, some (.int (0 : Int32)), none, none] [] (cw κ cs q3 J W) (fun _ => rfl) (tt_F [some (.ref 58), none, none, none, none, some (.long (1 : Int64)), none, some (.long (0 : Int64)), none, some (.int (0 : Int32)), none, none] (And.intro rfl (And.intro rfl (And.intro rfl (And.intro rfl trivial)))) (tl_100_2  (1 : Int64) (0 : Int64) (0 : Int32) q3 _ h))))
/- 101 -/
def lb_101_1 (I : (Nat → Nat → Int32)) : Option ((Int32 ⊕ Nat) × (Nat → Nat → Int32)) :=
  (some ((.inr 1), I))
def lb_101_3 (I : (Nat → Nat → Int32)) : Option ((Int32 ⊕ Nat) × (Nat → Nat → Int32)) :=
  (some ((.inr 0), I))
def bd_101_5 (c5 : Int32 → Int32 → Int32 → Int32 → (Nat → Nat → Int32) → Option ((Int32 ⊕ Nat) × (Nat → Nat → Int32))) (x3 : Int32) (x4 : Int32) (x5 : Int32) (x6 : Int32) (I : (Nat → Nat → Int32)) : Option ((Int32 ⊕ Nat) × (Nat → Nat → Int32)) :=
  (if x6 < x3 then ((f_51 x6 I).bind fun q4 => ((f_52 x6 I).bind fun q5 => ((f_3 q4 q5 I).bind fun q6 => ((f_8 x4 q6).bind fun q7 => ((f_53 x6 q7 q6).bind fun q8 => ((f_8 x5 q6).bind fun q9 => ((f_4 q8 q7 q9 q6).bind fun q10 => ((f_10 x4 q10).bind fun q11 => ((f_10 x5 q10).bind fun q12 => (c5 x3 q11 q12 (x6 + (1 : Int32)) q10)))))))))) else (some ((.inl (((60 : Int32) * x4) + x5)), I)))
def lb_101_5 : Int32 → Int32 → Int32 → Int32 → (Nat → Nat → Int32) → Option ((Int32 ⊕ Nat) × (Nat → Nat → Int32)) := fx (fun _ _ _ _ _ => none) (bd_101_5 ) FU
def f_101 (x1 : Int32) (x2 : Int32) (x3 : Int32) (I : (Nat → Nat → Int32)) : Option ((Int32 ⊕ Nat) × (Nat → Nat → Int32)) :=
  ((f_56 x1 I).bind fun q1 => (if q1 = 0 then (lb_101_1   I) else ((f_56 x2 I).bind fun q2 => (if q2 = 0 then (lb_101_1   I) else ((f_122 x3 (0 : Int32) (60 : Int32) ).bind fun q3 => (if q3 = 0 then (lb_101_3   I) else (if x1 = x2 then (lb_101_3   I) else (lb_101_5  x3 x1 x2 (0 : Int32) I))))))))
theorem tl_101_1 {d : Nat} {κ : KT} {cs : Nat × Nat} {J : Nat → Nat → Int64} {W : Nat} (I : (Nat → Nat → Int32)) (r : ((Int32 ⊕ Nat) × (Nat → Nat → Int32))) (h : lb_101_1   I = some r) : tt (d + 4) me_101 bk_101_1 [none, none, none, none, none, none, none, none] [] (cw κ cs I J W) (xi r.1) (cw κ (xc cs r.1) r.2 J W) :=
  tt_R 1 (fun r => (xi r.1)) (fun r => (cw κ (xc cs r.1) r.2 J W)) h (fun _ => rfl)
theorem tl_101_3 {d : Nat} {κ : KT} {cs : Nat × Nat} {J : Nat → Nat → Int64} {W : Nat} (I : (Nat → Nat → Int32)) (r : ((Int32 ⊕ Nat) × (Nat → Nat → Int32))) (h : lb_101_3   I = some r) : tt (d + 4) me_101 bk_101_3 [none, none, none, none, none, none, none, none] [] (cw κ cs I J W) (xi r.1) (cw κ (xc cs r.1) r.2 J W) :=
  tt_R 1 (fun r => (xi r.1)) (fun r => (cw κ (xc cs r.1) r.2 J W)) h (fun _ => rfl)
theorem tb_101_5 {d : Nat} {κ : KT} {cs : Nat × Nat} {J : Nat → Nat → Int64} {W : Nat} (c5 : Int32 → Int32 → Int32 → Int32 → (Nat → Nat → Int32) → Option ((Int32 ⊕ Nat) × (Nat → Nat → Int32))) (k5 : ∀ (x3 : Int32) (x4 : Int32) (x5 : Int32) (x6 : Int32) (I : (Nat → Nat → Int32)) (r : ((Int32 ⊕ Nat) × (Nat → Nat → Int32))), c5 x3 x4 x5 x6 I = some r → tt (d + 4) me_101 bk_101_5 [some (.ref 58), none, none, some (.int x3), some (.int x4), some (.int x5), some (.int x6), none] [] (cw κ cs I J W) (xi r.1) (cw κ (xc cs r.1) r.2 J W)) (x3 : Int32) (x4 : Int32) (x5 : Int32) (x6 : Int32) (I : (Nat → Nat → Int32)) (r : ((Int32 ⊕ Nat) × (Nat → Nat → Int32))) (h : bd_101_5  c5 x3 x4 x5 x6 I = some r) : tt (d + 4) me_101 bk_101_5 [some (.ref 58), none, none, some (.int x3), some (.int x4), some (.int x5), some (.int x6), none] [] (cw κ cs I J W) (xi r.1) (cw κ (xc cs r.1) r.2 J W) :=
  tt_I (L1 := (bk_101_5.drop 3)) (L2 := bk_101_6) 3 [some (.ref 58), none, none, some (.int x3), some (.int x4), some (.int x5), some (.int x6), none] [] (cw κ cs I J W) h (fun _ => rfl) (fun h =>
  tt_C (L1 := (bk_101_5.drop 9)) 6 [some (.ref 58), none, none, some (.int x3), some (.int x4), some (.int x5), some (.int x6), none] [.ref 74] (cw κ cs I J W) h (fun _ => rfl) (fun _ e => m_51 (d := d + 1) e) fun q4 h =>
  tt_C (L1 := (bk_101_5.drop 13)) 4 [some (.ref 58), none, none, some (.int x3), some (.int x4), some (.int x5), some (.int x6), none] [.int q4, .ref 74] (cw κ cs I J W) h (fun _ => rfl) (fun _ e => m_52 (d := d + 1) e) fun q5 h =>
  tt_C (L1 := (bk_101_5.drop 14)) 1 [some (.ref 58), none, none, some (.int x3), some (.int x4), some (.int x5), some (.int x6), none] [] (cw κ cs I J W) h (fun _ => rfl) (fun _ e => m_3 (d := d + 3) e) fun q6 h =>
  tt_C (L1 := (bk_101_5.drop 18)) 4 [some (.ref 58), none, none, some (.int x3), some (.int x4), some (.int x5), some (.int x6), none] [] (cw κ cs q6 J W) h (fun _ => rfl) (fun _ e => m_8 (d := d + 2) e) fun q7 h =>
  tt_C (L1 := (bk_101_5.drop 26)) 8 [some (.ref 58), none, none, some (.int x3), some (.int x4), some (.int x5), some (.int x6), some (.int q7)] [.ref 74] (cw κ cs q6 J W) h (fun _ => rfl) (fun _ e => m_53 (d := d + 1) e) fun q8 h =>
  tt_C (L1 := (bk_101_5.drop 31)) 5 [some (.ref 58), none, none, some (.int x3), some (.int x4), some (.int x5), some (.int x6), some (.int q7)] [.int q7, .int q8, .ref 74] (cw κ cs q6 J W) h (fun _ => rfl) (fun _ e => m_8 (d := d + 2) e) fun q9 h =>
  tt_C (L1 := (bk_101_5.drop 32)) 1 [some (.ref 58), none, none, some (.int x3), some (.int x4), some (.int x5), some (.int x6), some (.int q7)] [] (cw κ cs q6 J W) h (fun _ => rfl) (fun _ e => m_4 (d := d) e) fun q10 h =>
  tt_C (L1 := (bk_101_5.drop 36)) 4 [some (.ref 58), none, none, some (.int x3), some (.int x4), some (.int x5), some (.int x6), some (.int q7)] [] (cw κ cs q10 J W) h (fun _ => rfl) (fun _ e => m_10 (d := d + 1) e) fun q11 h =>
  tt_C (L1 := (bk_101_5.drop 41)) 5 [some (.ref 58), none, none, some (.int x3), some (.int q11), some (.int x5), some (.int x6), some (.int q7)] [] (cw κ cs q10 J W) h (fun _ => rfl) (fun _ e => m_10 (d := d + 1) e) fun q12 h =>
  tt_J (L1 := bk_101_5) 2 [some (.ref 58), none, none, some (.int x3), some (.int q11), some (.int q12), some (.int (x6 + (1 : Int32))), some (.int q7)] [] (cw κ cs q10 J W) (fun _ => rfl) (tt_F [some (.ref 58), none, none, some (.int x3), some (.int q11), some (.int q12), some (.int (x6 + (1 : Int32))), none] (And.intro rfl (And.intro rfl (And.intro rfl (And.intro rfl (And.intro rfl trivial))))) (k5 x3 q11 q12 (x6 + (1 : Int32)) q10 _ h))) (fun h =>
  tt_R 6 (fun r => (xi r.1)) (fun r => (cw κ (xc cs r.1) r.2 J W)) h (fun _ => rfl))
theorem tn_101_5 {d : Nat} {κ : KT} {cs : Nat × Nat} {J : Nat → Nat → Int64} {W : Nat} : ∀ (n : Nat) (x3 : Int32) (x4 : Int32) (x5 : Int32) (x6 : Int32) (I : (Nat → Nat → Int32)) (r : ((Int32 ⊕ Nat) × (Nat → Nat → Int32))), fx (fun _ _ _ _ _ => none) (bd_101_5 ) n x3 x4 x5 x6 I = some r → tt (d + 4) me_101 bk_101_5 [some (.ref 58), none, none, some (.int x3), some (.int x4), some (.int x5), some (.int x6), none] [] (cw κ cs I J W) (xi r.1) (cw κ (xc cs r.1) r.2 J W)
  | 0 => fun _ _ _ _ _ _ h => nomatch h
  | n + 1 => fun x3 x4 x5 x6 I r h => tb_101_5  (fx _ (bd_101_5 ) n) (tn_101_5  n) x3 x4 x5 x6 I r h
theorem tl_101_5 {d : Nat} {κ : KT} {cs : Nat × Nat} {J : Nat → Nat → Int64} {W : Nat} (x3 : Int32) (x4 : Int32) (x5 : Int32) (x6 : Int32) (I : (Nat → Nat → Int32)) (r : ((Int32 ⊕ Nat) × (Nat → Nat → Int32))) (h : lb_101_5  x3 x4 x5 x6 I = some r) : tt (d + 4) me_101 bk_101_5 [some (.ref 58), none, none, some (.int x3), some (.int x4), some (.int x5), some (.int x6), none] [] (cw κ cs I J W) (xi r.1) (cw κ (xc cs r.1) r.2 J W) := tn_101_5  FU x3 x4 x5 x6 I r h
theorem m_101 {d : Nat} {κ : KT} {cs : Nat × Nat} {J : Nat → Nat → Int64} {W : Nat} {x1 : Int32} {x2 : Int32} {x3 : Int32} {I : (Nat → Nat → Int32)} {r : ((Int32 ⊕ Nat) × (Nat → Nat → Int32))} (h : f_101 x1 x2 x3 I = some r) : tm (d + 4) 101 [.ref 58, .int x1, .int x2, .int x3] (cw κ cs I J W) (xi r.1) (cw κ (xc cs r.1) r.2 J W) :=
  tm_of me_101 rfl (Nat.le_of_ble_eq_true rfl) (
  tt_C (L1 := (bk_101_0.drop 4)) 4 [some (.ref 58), some (.int x1), some (.int x2), some (.int x3), none, none, none, none] [] (cw κ cs I J W) h (fun _ => rfl) (fun _ e => m_56 (d := d + 2) e) fun q1 h =>
  tt_I (L1 := bk_101_1) (L2 := (bk_101_0.drop 5)) 1 [some (.ref 58), some (.int x1), some (.int x2), some (.int x3), none, none, none, none] [] (cw κ cs I J W) h (fun _ => rfl) (fun h =>
  tt_F [none, none, none, none, none, none, none, none] trivial (tl_101_1   I _ h)) (fun h =>
  tt_C (L1 := (bk_101_0.drop 9)) 4 [some (.ref 58), some (.int x1), some (.int x2), some (.int x3), none, none, none, none] [] (cw κ cs I J W) h (fun _ => rfl) (fun _ e => m_56 (d := d + 2) e) fun q2 h =>
  tt_I (L1 := bk_101_1) (L2 := bk_101_2) 1 [some (.ref 58), some (.int x1), some (.int x2), some (.int x3), none, none, none, none] [] (cw κ cs I J W) h (fun _ => rfl) (fun h =>
  tt_F [none, none, none, none, none, none, none, none] trivial (tl_101_1   I _ h)) (fun h =>
  tt_C (L1 := (bk_101_2.drop 4)) 4 [some (.ref 58), some (.int x1), some (.int x2), some (.int x3), none, none, none, none] [] (cw κ cs I J W) h (fun _ => rfl) (fun _ e => m_122 (d := d + 3) e) fun q3 h =>
  tt_I (L1 := bk_101_3) (L2 := (bk_101_2.drop 5)) 1 [some (.ref 58), some (.int x1), some (.int x2), some (.int x3), none, none, none, none] [] (cw κ cs I J W) h (fun _ => rfl) (fun h =>
  tt_F [none, none, none, none, none, none, none, none] trivial (tl_101_3   I _ h)) (fun h =>
  tt_I (L1 := bk_101_3) (L2 := bk_101_4) 3 [some (.ref 58), some (.int x1), some (.int x2), some (.int x3), none, none, none, none] [] (cw κ cs I J W) h (fun _ => rfl) (fun h =>
  tt_F [none, none, none, none, none, none, none, none] trivial (tl_101_3   I _ h)) (fun h =>
  tt_J (L1 := bk_101_5) 5 [some (.ref 58), some (.int x1), some (.int x2), some (.int x3), some (.int x1), some (.int x2), some (.int (0 : Int32)), none] [] (cw κ cs I J W) (fun _ => rfl) (tt_F [some (.ref 58), none, none, some (.int x3), some (.int x1), some (.int x2), some (.int (0 : Int32)), none] (And.intro rfl (And.intro rfl (And.intro rfl (And.intro rfl (And.intro rfl trivial))))) (tl_101_5  x3 x1 x2 (0 : Int32) I _ h)))))))
/- 102 -/
def lb_102_3 (s0 : Int32) (I : (Nat → Nat → Int32)) : Option ((Int32 ⊕ Nat) × (Nat → Nat → Int32)) :=
  (some ((.inl s0), I))
def f_102 (x1 : Int32) (I : (Nat → Nat → Int32)) : Option ((Int32 ⊕ Nat) × (Nat → Nat → Int32)) :=
  ((f_122 x1 (0 : Int32) (6 : Int32) ).bind fun q1 => (if q1 = 0 then (some ((.inr 0), I)) else ((f_123 (I 79 5) x1 ).bind fun q2 => (if (5000 : Int32) < q2 then (lb_102_3  ((-2) : Int32) I) else ((f_12 x1 I).bind fun q3 => (lb_102_3  q3.1 q3.2))))))
theorem tl_102_3 {d : Nat} {κ : KT} {cs : Nat × Nat} {J : Nat → Nat → Int64} {W : Nat} (s0 : Int32) (I : (Nat → Nat → Int32)) (r : ((Int32 ⊕ Nat) × (Nat → Nat → Int32))) (h : lb_102_3  s0 I = some r) : tt (d + 14) me_102 bk_102_3 [none, none] [.int s0] (cw κ cs I J W) (xi r.1) (cw κ (xc cs r.1) r.2 J W) :=
  tt_R 1 (fun r => (xi r.1)) (fun r => (cw κ (xc cs r.1) r.2 J W)) h (fun _ => rfl)
theorem m_102 {d : Nat} {κ : KT} {cs : Nat × Nat} {J : Nat → Nat → Int64} {W : Nat} {x1 : Int32} {I : (Nat → Nat → Int32)} {r : ((Int32 ⊕ Nat) × (Nat → Nat → Int32))} (h : f_102 x1 I = some r) : tm (d + 14) 102 [.ref 58, .int x1] (cw κ cs I J W) (xi r.1) (cw κ (xc cs r.1) r.2 J W) :=
  tm_of me_102 rfl (Nat.le_of_ble_eq_true rfl) (
  tt_C (L1 := (bk_102_0.drop 4)) 4 [some (.ref 58), some (.int x1)] [] (cw κ cs I J W) h (fun _ => rfl) (fun _ e => m_122 (d := d + 13) e) fun q1 h =>
  tt_I (L1 := (bk_102_0.drop 5)) (L2 := bk_102_1) 1 [some (.ref 58), some (.int x1)] [] (cw κ cs I J W) h (fun _ => rfl) (fun h =>
  tt_R 1 (fun r => (xi r.1)) (fun r => (cw κ (xc cs r.1) r.2 J W)) h (fun _ => rfl)) (fun h =>
  tt_C (L1 := (bk_102_1.drop 5)) 5 [some (.ref 58), some (.int x1)] [] (cw κ cs I J W) h (fun _ => rfl) (fun _ e => m_123 (d := d + 13) e) fun q2 h =>
  tt_I (L1 := (bk_102_1.drop 7)) (L2 := bk_102_2) 2 [some (.ref 58), some (.int x1)] [] (cw κ cs I J W) h (fun _ => rfl) (fun h =>
  tt_J (L1 := bk_102_3) 1 [some (.ref 58), some (.int x1)] [.int ((-2) : Int32)] (cw κ cs I J W) (fun _ => rfl) (tt_F [none, none] trivial (tl_102_3  ((-2) : Int32) I _ h))) (fun h =>
  tt_C (L1 := bk_102_3) 4 [some (.ref 58), some (.int x1)] [] (cw κ cs I J W) h (fun _ => rfl) (fun _ e => m_12 (d := d) e) fun q3 h =>
  tt_F [none, none] trivial (tl_102_3  q3.1 q3.2 _ h))))
/- 103 -/
def f_103 (x1 : Int32) (I : (Nat → Nat → Int32)) : Option (Int32 ⊕ Nat) :=
  ((f_56 x1 I).bind fun q1 => (if q1 = 0 then (some (.inr 1)) else (some (.inl (atf (I 88) 60 x1)))))
theorem m_103 {d : Nat} {κ : KT} {cs : Nat × Nat} {J : Nat → Nat → Int64} {W : Nat} {x1 : Int32} {I : (Nat → Nat → Int32)} {r : (Int32 ⊕ Nat)} (h : f_103 x1 I = some r) : tm (d + 2) 103 [.ref 58, .int x1] (cw κ cs I J W) (xi r) (cw κ (xc cs r) I J W) :=
  tm_of me_103 rfl (Nat.le_of_ble_eq_true rfl) (
  tt_C (L1 := (bk_103_0.drop 4)) 4 [some (.ref 58), some (.int x1)] [] (cw κ cs I J W) h (fun _ => rfl) (fun _ e => m_56 (d := d) e) fun q1 h =>
  tt_I (L1 := (bk_103_0.drop 5)) (L2 := bk_103_1) 1 [some (.ref 58), some (.int x1)] [] (cw κ cs I J W) h (fun _ => rfl) (fun h =>
  tt_R 1 (fun r => (xi r)) (fun r => (cw κ (xc cs r) I J W)) h (fun _ => rfl)) (fun h =>
  tt_K (L1 := (bk_103_1.drop 5)) 5 [some (.ref 58), some (.int x1)] [] (cw κ cs I J W) (fun _ => rfl) (m_at 88 60 x1 (Nat.le_of_ble_eq_true rfl) rfl)
  (tt_R 1 (fun r => (xi r)) (fun r => (cw κ (xc cs r) I J W)) h (fun _ => rfl))))
/- 120 -/
def f_120 (x0 : Int32) (x1 : Int32) (x2 : Int32) (x3 : Int32) : Option Int32 :=
  (some ((((((x0 * (6 : Int32)) + x1) * (6 : Int32)) + x2) * (6 : Int32)) + x3))
theorem m_120 {d : Nat} {κ : KT} {cs : Nat × Nat} {I : Nat → Nat → Int32} {J : Nat → Nat → Int64} {W : Nat} {x0 : Int32} {x1 : Int32} {x2 : Int32} {x3 : Int32} {r : Int32} (h : f_120 x0 x1 x2 x3  = some r) : tm d 120 [.int x0, .int x1, .int x2, .int x3] (cw κ cs I J W) (.inl (some (.int r))) (cw κ cs I J W) :=
  tm_of me_120 rfl (Nat.le_of_ble_eq_true rfl) (
  tt_R 14 (fun r => (.inl (some (.int r)))) (fun r => (cw κ cs I J W)) h (fun _ => rfl))
/- 67 -/
def f_67 (x0 : Int32) (I : (Nat → Nat → Int32)) : Option (Nat → Nat → Int32) :=
  ((f_121 x0 (3 : Int32) ).bind fun q1 => ((f_121 x0 (2 : Int32) ).bind fun q2 => ((f_3 q1 q2 I).bind fun q3 => ((f_121 x0 (1 : Int32) ).bind fun q4 => ((f_121 x0 (0 : Int32) ).bind fun q5 => ((f_121 x0 (0 : Int32) ).bind fun q6 => ((f_4 q4 q5 q6 q3).bind fun q7 => (some q7))))))))
theorem m_67 {d : Nat} {κ : KT} {cs : Nat × Nat} {J : Nat → Nat → Int64} {W : Nat} {x0 : Int32} {I : (Nat → Nat → Int32)} {r : (Nat → Nat → Int32)} (h : f_67 x0 I = some r) : tm (d + 4) 67 [.int x0, .ref 74] (cw κ cs I J W) (.inl none) (cw κ cs r J W) :=
  tm_of me_67 rfl (Nat.le_of_ble_eq_true rfl) (
  tt_C (L1 := (bk_67_0.drop 4)) 4 [some (.int x0), some (.ref 74)] [.ref 74] (cw κ cs I J W) h (fun _ => rfl) (fun _ e => m_121 (d := d + 3) e) fun q1 h =>
  tt_C (L1 := (bk_67_0.drop 7)) 3 [some (.int x0), some (.ref 74)] [.int q1, .ref 74] (cw κ cs I J W) h (fun _ => rfl) (fun _ e => m_121 (d := d + 3) e) fun q2 h =>
  tt_C (L1 := (bk_67_0.drop 8)) 1 [some (.int x0), some (.ref 74)] [] (cw κ cs I J W) h (fun _ => rfl) (fun _ e => m_3 (d := d + 3) e) fun q3 h =>
  tt_C (L1 := (bk_67_0.drop 12)) 4 [some (.int x0), some (.ref 74)] [.ref 74] (cw κ cs q3 J W) h (fun _ => rfl) (fun _ e => m_121 (d := d + 3) e) fun q4 h =>
  tt_C (L1 := (bk_67_0.drop 15)) 3 [some (.int x0), some (.ref 74)] [.int q4, .ref 74] (cw κ cs q3 J W) h (fun _ => rfl) (fun _ e => m_121 (d := d + 3) e) fun q5 h =>
  tt_C (L1 := (bk_67_0.drop 18)) 3 [some (.int x0), some (.ref 74)] [.int q5, .int q4, .ref 74] (cw κ cs q3 J W) h (fun _ => rfl) (fun _ e => m_121 (d := d + 3) e) fun q6 h =>
  tt_C (L1 := (bk_67_0.drop 19)) 1 [some (.int x0), some (.ref 74)] [] (cw κ cs q3 J W) h (fun _ => rfl) (fun _ e => m_4 (d := d) e) fun q7 h =>
  tt_R 1 (fun r => (.inl none)) (fun r => (cw κ cs r J W)) h (fun _ => rfl))
/- 68 -/
def lb_68_2 (s0 : Int32) (I : (Nat → Nat → Int32)) : Option Int32 :=
  (some s0)
def f_68 (x0 : Int32) (x1 : Int32) (I : (Nat → Nat → Int32)) : Option Int32 :=
  ((f_8 x0 I).bind fun q1 => ((f_121 x1 (0 : Int32) ).bind fun q2 => (if q1 = q2 then (lb_68_2  (0 : Int32) I) else (lb_68_2  (1 : Int32) I))))
theorem tl_68_2 {d : Nat} {κ : KT} {cs : Nat × Nat} {J : Nat → Nat → Int64} {W : Nat} (s0 : Int32) (I : (Nat → Nat → Int32)) (r : Int32) (h : lb_68_2  s0 I = some r) : tt (d + 2) me_68 bk_68_2 [none, none, none] [.int s0] (cw κ cs I J W) (.inl (some (.int r))) (cw κ cs I J W) :=
  tt_R 1 (fun r => (.inl (some (.int r)))) (fun r => (cw κ cs I J W)) h (fun _ => rfl)
theorem m_68 {d : Nat} {κ : KT} {cs : Nat × Nat} {J : Nat → Nat → Int64} {W : Nat} {x0 : Int32} {x1 : Int32} {I : (Nat → Nat → Int32)} {r : Int32} (h : f_68 x0 x1 I = some r) : tm (d + 2) 68 [.int x0, .int x1, .ref 74] (cw κ cs I J W) (.inl (some (.int r))) (cw κ cs I J W) :=
  tm_of me_68 rfl (Nat.le_of_ble_eq_true rfl) (
  tt_C (L1 := (bk_68_0.drop 3)) 3 [some (.int x0), some (.int x1), some (.ref 74)] [] (cw κ cs I J W) h (fun _ => rfl) (fun _ e => m_8 (d := d) e) fun q1 h =>
  tt_C (L1 := (bk_68_0.drop 6)) 3 [some (.int x0), some (.int x1), some (.ref 74)] [.int q1] (cw κ cs I J W) h (fun _ => rfl) (fun _ e => m_121 (d := d + 1) e) fun q2 h =>
  tt_I (L1 := (bk_68_0.drop 7)) (L2 := bk_68_1) 1 [some (.int x0), some (.int x1), some (.ref 74)] [] (cw κ cs I J W) h (fun _ => rfl) (fun h =>
  tt_J (L1 := bk_68_2) 1 [some (.int x0), some (.int x1), some (.ref 74)] [.int (0 : Int32)] (cw κ cs I J W) (fun _ => rfl) (tt_F [none, none, none] trivial (tl_68_2  (0 : Int32) I _ h))) (fun h =>
  tt_J (L1 := bk_68_2) 0 [some (.int x0), some (.int x1), some (.ref 74)] [.int (1 : Int32)] (cw κ cs I J W) (fun _ => rfl) (tt_F [none, none, none] trivial (tl_68_2  (1 : Int32) I _ h))))
/- 63 -/
def bd_63_1 (c1 : Int32 → Int32 → (Nat → Nat → Int32) → Option (Nat → Nat → Int32)) (x3 : Int32) (x4 : Int32) (I : (Nat → Nat → Int32)) : Option (Nat → Nat → Int32) :=
  (if x4 < (I 74 4) then ((f_10 x4 I).bind fun q3 => (let I4 := putf I 88 60 q3 (atf (I 59) 60 x4)
  ((f_68 x4 x3 I4).bind fun q5 => (let I6 := putf I4 90 60 (atf (I 59) 60 x4) ((atf (I4 90) 60 (atf (I 59) 60 x4)) + q5)
  (c1 x3 (x4 + (1 : Int32)) I6))))) else (some I))
def lb_63_1 : Int32 → Int32 → (Nat → Nat → Int32) → Option (Nat → Nat → Int32) := fx (fun _ _ _ => none) (bd_63_1 ) FU
def f_63 (I : (Nat → Nat → Int32)) : Option (Nat → Nat → Int32) :=
  ((f_67 (atf (I 91) 20 ((I 87 4) - (1 : Int32))) I).bind fun q1 => (let I2 := cpyf q1 88 59 60
  (lb_63_1  (atf (I 91) 20 ((I 87 4) - (1 : Int32))) (0 : Int32) I2)))
theorem tb_63_1 {d : Nat} {κ : KT} {cs : Nat × Nat} {J : Nat → Nat → Int64} {W : Nat} (c1 : Int32 → Int32 → (Nat → Nat → Int32) → Option (Nat → Nat → Int32)) (k1 : ∀ (x3 : Int32) (x4 : Int32) (I : (Nat → Nat → Int32)) (r : (Nat → Nat → Int32)), c1 x3 x4 I = some r → tt (d + 5) me_63 bk_63_1 [some (.ref 87), some (.ref 74), some (.ref 59), some (.int x3), some (.int x4), none] [] (cw κ cs I J W) (.inl none) (cw κ cs r J W)) (x3 : Int32) (x4 : Int32) (I : (Nat → Nat → Int32)) (r : (Nat → Nat → Int32)) (h : bd_63_1  c1 x3 x4 I = some r) : tt (d + 5) me_63 bk_63_1 [some (.ref 87), some (.ref 74), some (.ref 59), some (.int x3), some (.int x4), none] [] (cw κ cs I J W) (.inl none) (cw κ cs r J W) :=
  tt_I (L1 := (bk_63_1.drop 4)) (L2 := bk_63_2) 4 [some (.ref 87), some (.ref 74), some (.ref 59), some (.int x3), some (.int x4), none] [] (cw κ cs I J W) h (fun _ => rfl) (fun h =>
  tt_K (L1 := (bk_63_1.drop 7)) 3 [some (.ref 87), some (.ref 74), some (.ref 59), some (.int x3), some (.int x4), none] [] (cw κ cs I J W) (fun _ => rfl) (m_at 59 60 x4 (Nat.le_of_ble_eq_true rfl) rfl)
  (tt_C (L1 := (bk_63_1.drop 13)) 6 [some (.ref 87), some (.ref 74), some (.ref 59), some (.int x3), some (.int x4), some (.int (atf (I 59) 60 x4))] [.ref 88] (cw κ cs I J W) h (fun _ => rfl) (fun _ e => m_10 (d := d + 2) e) fun q3 h =>
  let I4 := putf I 88 60 q3 (atf (I 59) 60 x4)
  tt_K (L1 := (bk_63_1.drop 15)) 2 [some (.ref 87), some (.ref 74), some (.ref 59), some (.int x3), some (.int x4), some (.int (atf (I 59) 60 x4))] [] (cw κ cs I J W) (fun _ => rfl) (m_put 88 60 q3 (atf (I 59) 60 x4) (Nat.le_of_ble_eq_true rfl) rfl (Nat.le_of_ble_eq_true rfl))
  (tt_K (L1 := (bk_63_1.drop 22)) 7 [some (.ref 87), some (.ref 74), some (.ref 59), some (.int x3), some (.int x4), some (.int (atf (I 59) 60 x4))] [.int (atf (I 59) 60 x4), .ref 90] (cw κ cs I4 J W) (fun _ => rfl) (m_at 90 60 (atf (I 59) 60 x4) (Nat.le_of_ble_eq_true rfl) rfl)
  (tt_C (L1 := (bk_63_1.drop 26)) 4 [some (.ref 87), some (.ref 74), some (.ref 59), some (.int x3), some (.int x4), some (.int (atf (I 59) 60 x4))] [.int (atf (I4 90) 60 (atf (I 59) 60 x4)), .int (atf (I 59) 60 x4), .ref 90] (cw κ cs I4 J W) h (fun _ => rfl) (fun _ e => m_68 (d := d + 2) e) fun q5 h =>
  let I6 := putf I4 90 60 (atf (I 59) 60 x4) ((atf (I4 90) 60 (atf (I 59) 60 x4)) + q5)
  tt_K (L1 := (bk_63_1.drop 28)) 2 [some (.ref 87), some (.ref 74), some (.ref 59), some (.int x3), some (.int x4), some (.int (atf (I 59) 60 x4))] [] (cw κ cs I4 J W) (fun _ => rfl) (m_put 90 60 (atf (I 59) 60 x4) ((atf (I4 90) 60 (atf (I 59) 60 x4)) + q5) (Nat.le_of_ble_eq_true rfl) rfl (Nat.le_of_ble_eq_true rfl))
  (tt_J (L1 := bk_63_1) 1 [some (.ref 87), some (.ref 74), some (.ref 59), some (.int x3), some (.int (x4 + (1 : Int32))), some (.int (atf (I 59) 60 x4))] [] (cw κ cs I6 J W) (fun _ => rfl) (tt_F [some (.ref 87), some (.ref 74), some (.ref 59), some (.int x3), some (.int (x4 + (1 : Int32))), none] (And.intro rfl (And.intro rfl (And.intro rfl (And.intro rfl (And.intro rfl trivial))))) (k1 x3 (x4 + (1 : Int32)) I6 _ h))))))) (fun h =>
  tt_R 1 (fun r => (.inl none)) (fun r => (cw κ cs r J W)) h (fun _ => rfl))
theorem tn_63_1 {d : Nat} {κ : KT} {cs : Nat × Nat} {J : Nat → Nat → Int64} {W : Nat} : ∀ (n : Nat) (x3 : Int32) (x4 : Int32) (I : (Nat → Nat → Int32)) (r : (Nat → Nat → Int32)), fx (fun _ _ _ => none) (bd_63_1 ) n x3 x4 I = some r → tt (d + 5) me_63 bk_63_1 [some (.ref 87), some (.ref 74), some (.ref 59), some (.int x3), some (.int x4), none] [] (cw κ cs I J W) (.inl none) (cw κ cs r J W)
  | 0 => fun _ _ _ _ h => nomatch h
  | n + 1 => fun x3 x4 I r h => tb_63_1  (fx _ (bd_63_1 ) n) (tn_63_1  n) x3 x4 I r h
theorem tl_63_1 {d : Nat} {κ : KT} {cs : Nat × Nat} {J : Nat → Nat → Int64} {W : Nat} (x3 : Int32) (x4 : Int32) (I : (Nat → Nat → Int32)) (r : (Nat → Nat → Int32)) (h : lb_63_1  x3 x4 I = some r) : tt (d + 5) me_63 bk_63_1 [some (.ref 87), some (.ref 74), some (.ref 59), some (.int x3), some (.int x4), none] [] (cw κ cs I J W) (.inl none) (cw κ cs r J W) := tn_63_1  FU x3 x4 I r h
theorem m_63 {d : Nat} {κ : KT} {cs : Nat × Nat} {J : Nat → Nat → Int64} {W : Nat} {I : (Nat → Nat → Int32)} {r : (Nat → Nat → Int32)} (h : f_63  I = some r) : tm (d + 5) 63 [.ref 87, .ref 74, .ref 59] (cw κ cs I J W) (.inl none) (cw κ cs r J W) :=
  tm_of me_63 rfl (Nat.le_of_ble_eq_true rfl) (
  tt_K (L1 := (bk_63_0.drop 7)) 7 [some (.ref 87), some (.ref 74), some (.ref 59), none, none, none] [] (cw κ cs I J W) (fun _ => rfl) (m_at 91 20 ((I 87 4) - (1 : Int32)) (Nat.le_of_ble_eq_true rfl) rfl)
  (tt_C (L1 := (bk_63_0.drop 11)) 4 [some (.ref 87), some (.ref 74), some (.ref 59), some (.int (atf (I 91) 20 ((I 87 4) - (1 : Int32)))), none, none] [] (cw κ cs I J W) h (fun _ => rfl) (fun _ e => m_67 (d := d) e) fun q1 h =>
  let I2 := cpyf q1 88 59 60
  tt_K (L1 := (bk_63_0.drop 15)) 4 [some (.ref 87), some (.ref 74), some (.ref 59), some (.int (atf (I 91) 20 ((I 87 4) - (1 : Int32)))), none, none] [] (cw κ cs q1 J W) (fun _ => rfl) (m_copy 88 60 59 60 (Nat.le_of_ble_eq_true rfl) (Nat.le_of_ble_eq_true rfl) rfl rfl (Nat.le_of_ble_eq_true rfl))
  (tt_J (L1 := bk_63_1) 1 [some (.ref 87), some (.ref 74), some (.ref 59), some (.int (atf (I 91) 20 ((I 87 4) - (1 : Int32)))), some (.int (0 : Int32)), none] [] (cw κ cs I2 J W) (fun _ => rfl) (tt_F [some (.ref 87), some (.ref 74), some (.ref 59), some (.int (atf (I 91) 20 ((I 87 4) - (1 : Int32)))), some (.int (0 : Int32)), none] (And.intro rfl (And.intro rfl (And.intro rfl (And.intro rfl (And.intro rfl trivial))))) (tl_63_1  (atf (I 91) 20 ((I 87 4) - (1 : Int32))) (0 : Int32) I2 _ h)))))
/- 104 -/
def lb_104_1 (I : (Nat → Nat → Int32)) : Option (Int32 × (Nat → Nat → Int32)) :=
  (let I1 := up I 58 12 ((I 58 12) + (1 : Int32))
  (some (((-1) : Int32), I1)))
def f_104 (x1 : Int32) (x2 : Int32) (x3 : Int32) (x4 : Int32) (I : (Nat → Nat → Int32)) : Option (Int32 × (Nat → Nat → Int32)) :=
  (if (I 87 4) < (20 : Int32) then ((f_58 x1 x2 x3 x4 I).bind fun q2 => (if q2 = 0 then (lb_104_1   I) else ((f_120 x1 x2 x3 x4 ).bind fun q3 => ((f_62 q3 I).bind fun q4 => ((f_63  q4).bind fun q5 => ((f_66  q5).bind fun q6 => ((f_210 q6 ).bind fun q7 => (some (q7, q5))))))))) else (lb_104_1   I))
theorem tl_104_1 {d : Nat} {κ : KT} {cs : Nat × Nat} {J : Nat → Nat → Int64} {W : Nat} (I : (Nat → Nat → Int32)) (r : (Int32 × (Nat → Nat → Int32))) (h : lb_104_1   I = some r) : tt (d + 6) me_104 bk_104_1 [some (.ref 58), none, none, none, none] [] (cw κ cs I J W) (.inl (some (.int r.1))) (cw κ cs r.2 J W) :=
  let I1 := up I 58 12 ((I 58 12) + (1 : Int32))
  tt_R 8 (fun r => (.inl (some (.int r.1)))) (fun r => (cw κ cs r.2 J W)) h (fun _ => rfl)
theorem m_104 {d : Nat} {κ : KT} {cs : Nat × Nat} {J : Nat → Nat → Int64} {W : Nat} {x1 : Int32} {x2 : Int32} {x3 : Int32} {x4 : Int32} {I : (Nat → Nat → Int32)} {r : (Int32 × (Nat → Nat → Int32))} (h : f_104 x1 x2 x3 x4 I = some r) : tm (d + 6) 104 [.ref 58, .int x1, .int x2, .int x3, .int x4] (cw κ cs I J W) (.inl (some (.int r.1))) (cw κ cs r.2 J W) :=
  tm_of me_104 rfl (Nat.le_of_ble_eq_true rfl) (
  tt_I (L1 := (bk_104_0.drop 5)) (L2 := bk_104_1) 5 [some (.ref 58), some (.int x1), some (.int x2), some (.int x3), some (.int x4)] [] (cw κ cs I J W) h (fun _ => rfl) (fun h =>
  tt_C (L1 := (bk_104_0.drop 12)) 7 [some (.ref 58), some (.int x1), some (.int x2), some (.int x3), some (.int x4)] [] (cw κ cs I J W) h (fun _ => rfl) (fun _ e => m_58 (d := d + 3) e) fun q2 h =>
  tt_I (L1 := bk_104_1) (L2 := bk_104_2) 1 [some (.ref 58), some (.int x1), some (.int x2), some (.int x3), some (.int x4)] [] (cw κ cs I J W) h (fun _ => rfl) (fun h =>
  tt_F [some (.ref 58), none, none, none, none] (And.intro rfl trivial) (tl_104_1   I _ h)) (fun h =>
  tt_C (L1 := (bk_104_2.drop 7)) 7 [some (.ref 58), some (.int x1), some (.int x2), some (.int x3), some (.int x4)] [.ref 87] (cw κ cs I J W) h (fun _ => rfl) (fun _ e => m_120 (d := d + 5) e) fun q3 h =>
  tt_C (L1 := (bk_104_2.drop 8)) 1 [some (.ref 58), some (.int x1), some (.int x2), some (.int x3), some (.int x4)] [] (cw κ cs I J W) h (fun _ => rfl) (fun _ e => m_62 (d := d + 4) e) fun q4 h =>
  tt_C (L1 := (bk_104_2.drop 15)) 7 [some (.ref 58), some (.int x1), some (.int x2), some (.int x3), some (.int x4)] [] (cw κ cs q4 J W) h (fun _ => rfl) (fun _ e => m_63 (d := d) e) fun q5 h =>
  tt_C (L1 := (bk_104_2.drop 20)) 5 [some (.ref 58), some (.int x1), some (.int x2), some (.int x3), some (.int x4)] [] (cw κ cs q5 J W) h (fun _ => rfl) (fun _ e => m_66 (d := d + 4) e) fun q6 h =>
  tt_C (L1 := (bk_104_2.drop 21)) 1 [some (.ref 58), some (.int x1), some (.int x2), some (.int x3), some (.int x4)] [] (cw κ cs q5 J W) h (fun _ => rfl) (fun _ e => m_210 (d := d + 5) e) fun q7 h =>
  tt_R 1 (fun r => (.inl (some (.int r.1)))) (fun r => (cw κ cs r.2 J W)) h (fun _ => rfl))) (fun h =>
  tt_F [some (.ref 58), none, none, none, none] (And.intro rfl trivial) (tl_104_1   I _ h)))
/- 64 -/
def bd_64_1 (c1 : Int32 → Int32 → (Nat → Nat → Int32) → Option (Nat → Nat → Int32)) (x3 : Int32) (x4 : Int32) (I : (Nat → Nat → Int32)) : Option (Nat → Nat → Int32) :=
  (if x4 < (I 74 4) then ((f_10 x4 I).bind fun q3 => (let I4 := putf I 88 60 x4 (atf (I 59) 60 q3)
  ((f_68 x4 x3 I4).bind fun q5 => (let I6 := putf I4 90 60 (atf (I 59) 60 q3) ((atf (I4 90) 60 (atf (I 59) 60 q3)) - q5)
  (c1 x3 (x4 + (1 : Int32)) I6))))) else (some I))
def lb_64_1 : Int32 → Int32 → (Nat → Nat → Int32) → Option (Nat → Nat → Int32) := fx (fun _ _ _ => none) (bd_64_1 ) FU
def f_64 (I : (Nat → Nat → Int32)) : Option (Nat → Nat → Int32) :=
  ((f_67 (atf (I 91) 20 ((I 87 4) - (1 : Int32))) I).bind fun q1 => (let I2 := cpyf q1 88 59 60
  (lb_64_1  (atf (I 91) 20 ((I 87 4) - (1 : Int32))) (0 : Int32) I2)))
theorem tb_64_1 {d : Nat} {κ : KT} {cs : Nat × Nat} {J : Nat → Nat → Int64} {W : Nat} (c1 : Int32 → Int32 → (Nat → Nat → Int32) → Option (Nat → Nat → Int32)) (k1 : ∀ (x3 : Int32) (x4 : Int32) (I : (Nat → Nat → Int32)) (r : (Nat → Nat → Int32)), c1 x3 x4 I = some r → tt (d + 5) me_64 bk_64_1 [some (.ref 87), some (.ref 74), some (.ref 59), some (.int x3), some (.int x4), none] [] (cw κ cs I J W) (.inl none) (cw κ cs r J W)) (x3 : Int32) (x4 : Int32) (I : (Nat → Nat → Int32)) (r : (Nat → Nat → Int32)) (h : bd_64_1  c1 x3 x4 I = some r) : tt (d + 5) me_64 bk_64_1 [some (.ref 87), some (.ref 74), some (.ref 59), some (.int x3), some (.int x4), none] [] (cw κ cs I J W) (.inl none) (cw κ cs r J W) :=
  tt_I (L1 := (bk_64_1.drop 4)) (L2 := bk_64_2) 4 [some (.ref 87), some (.ref 74), some (.ref 59), some (.int x3), some (.int x4), none] [] (cw κ cs I J W) h (fun _ => rfl) (fun h =>
  tt_C (L1 := (bk_64_1.drop 8)) 4 [some (.ref 87), some (.ref 74), some (.ref 59), some (.int x3), some (.int x4), none] [.ref 59] (cw κ cs I J W) h (fun _ => rfl) (fun _ e => m_10 (d := d + 2) e) fun q3 h =>
  tt_K (L1 := (bk_64_1.drop 9)) 1 [some (.ref 87), some (.ref 74), some (.ref 59), some (.int x3), some (.int x4), none] [] (cw κ cs I J W) (fun _ => rfl) (m_at 59 60 q3 (Nat.le_of_ble_eq_true rfl) rfl)
  (let I4 := putf I 88 60 x4 (atf (I 59) 60 q3)
  tt_K (L1 := (bk_64_1.drop 15)) 6 [some (.ref 87), some (.ref 74), some (.ref 59), some (.int x3), some (.int x4), some (.int (atf (I 59) 60 q3))] [] (cw κ cs I J W) (fun _ => rfl) (m_put 88 60 x4 (atf (I 59) 60 q3) (Nat.le_of_ble_eq_true rfl) rfl (Nat.le_of_ble_eq_true rfl))
  (tt_K (L1 := (bk_64_1.drop 22)) 7 [some (.ref 87), some (.ref 74), some (.ref 59), some (.int x3), some (.int x4), some (.int (atf (I 59) 60 q3))] [.int (atf (I 59) 60 q3), .ref 90] (cw κ cs I4 J W) (fun _ => rfl) (m_at 90 60 (atf (I 59) 60 q3) (Nat.le_of_ble_eq_true rfl) rfl)
  (tt_C (L1 := (bk_64_1.drop 26)) 4 [some (.ref 87), some (.ref 74), some (.ref 59), some (.int x3), some (.int x4), some (.int (atf (I 59) 60 q3))] [.int (atf (I4 90) 60 (atf (I 59) 60 q3)), .int (atf (I 59) 60 q3), .ref 90] (cw κ cs I4 J W) h (fun _ => rfl) (fun _ e => m_68 (d := d + 2) e) fun q5 h =>
  let I6 := putf I4 90 60 (atf (I 59) 60 q3) ((atf (I4 90) 60 (atf (I 59) 60 q3)) - q5)
  tt_K (L1 := (bk_64_1.drop 28)) 2 [some (.ref 87), some (.ref 74), some (.ref 59), some (.int x3), some (.int x4), some (.int (atf (I 59) 60 q3))] [] (cw κ cs I4 J W) (fun _ => rfl) (m_put 90 60 (atf (I 59) 60 q3) ((atf (I4 90) 60 (atf (I 59) 60 q3)) - q5) (Nat.le_of_ble_eq_true rfl) rfl (Nat.le_of_ble_eq_true rfl))
  (tt_J (L1 := bk_64_1) 1 [some (.ref 87), some (.ref 74), some (.ref 59), some (.int x3), some (.int (x4 + (1 : Int32))), some (.int (atf (I 59) 60 q3))] [] (cw κ cs I6 J W) (fun _ => rfl) (tt_F [some (.ref 87), some (.ref 74), some (.ref 59), some (.int x3), some (.int (x4 + (1 : Int32))), none] (And.intro rfl (And.intro rfl (And.intro rfl (And.intro rfl (And.intro rfl trivial))))) (k1 x3 (x4 + (1 : Int32)) I6 _ h))))))) (fun h =>
  tt_R 1 (fun r => (.inl none)) (fun r => (cw κ cs r J W)) h (fun _ => rfl))
theorem tn_64_1 {d : Nat} {κ : KT} {cs : Nat × Nat} {J : Nat → Nat → Int64} {W : Nat} : ∀ (n : Nat) (x3 : Int32) (x4 : Int32) (I : (Nat → Nat → Int32)) (r : (Nat → Nat → Int32)), fx (fun _ _ _ => none) (bd_64_1 ) n x3 x4 I = some r → tt (d + 5) me_64 bk_64_1 [some (.ref 87), some (.ref 74), some (.ref 59), some (.int x3), some (.int x4), none] [] (cw κ cs I J W) (.inl none) (cw κ cs r J W)
  | 0 => fun _ _ _ _ h => nomatch h
  | n + 1 => fun x3 x4 I r h => tb_64_1  (fx _ (bd_64_1 ) n) (tn_64_1  n) x3 x4 I r h
theorem tl_64_1 {d : Nat} {κ : KT} {cs : Nat × Nat} {J : Nat → Nat → Int64} {W : Nat} (x3 : Int32) (x4 : Int32) (I : (Nat → Nat → Int32)) (r : (Nat → Nat → Int32)) (h : lb_64_1  x3 x4 I = some r) : tt (d + 5) me_64 bk_64_1 [some (.ref 87), some (.ref 74), some (.ref 59), some (.int x3), some (.int x4), none] [] (cw κ cs I J W) (.inl none) (cw κ cs r J W) := tn_64_1  FU x3 x4 I r h
theorem m_64 {d : Nat} {κ : KT} {cs : Nat × Nat} {J : Nat → Nat → Int64} {W : Nat} {I : (Nat → Nat → Int32)} {r : (Nat → Nat → Int32)} (h : f_64  I = some r) : tm (d + 5) 64 [.ref 87, .ref 74, .ref 59] (cw κ cs I J W) (.inl none) (cw κ cs r J W) :=
  tm_of me_64 rfl (Nat.le_of_ble_eq_true rfl) (
  tt_K (L1 := (bk_64_0.drop 7)) 7 [some (.ref 87), some (.ref 74), some (.ref 59), none, none, none] [] (cw κ cs I J W) (fun _ => rfl) (m_at 91 20 ((I 87 4) - (1 : Int32)) (Nat.le_of_ble_eq_true rfl) rfl)
  (tt_C (L1 := (bk_64_0.drop 11)) 4 [some (.ref 87), some (.ref 74), some (.ref 59), some (.int (atf (I 91) 20 ((I 87 4) - (1 : Int32)))), none, none] [] (cw κ cs I J W) h (fun _ => rfl) (fun _ e => m_67 (d := d) e) fun q1 h =>
  let I2 := cpyf q1 88 59 60
  tt_K (L1 := (bk_64_0.drop 15)) 4 [some (.ref 87), some (.ref 74), some (.ref 59), some (.int (atf (I 91) 20 ((I 87 4) - (1 : Int32)))), none, none] [] (cw κ cs q1 J W) (fun _ => rfl) (m_copy 88 60 59 60 (Nat.le_of_ble_eq_true rfl) (Nat.le_of_ble_eq_true rfl) rfl rfl (Nat.le_of_ble_eq_true rfl))
  (tt_J (L1 := bk_64_1) 1 [some (.ref 87), some (.ref 74), some (.ref 59), some (.int (atf (I 91) 20 ((I 87 4) - (1 : Int32)))), some (.int (0 : Int32)), none] [] (cw κ cs I2 J W) (fun _ => rfl) (tt_F [some (.ref 87), some (.ref 74), some (.ref 59), some (.int (atf (I 91) 20 ((I 87 4) - (1 : Int32)))), some (.int (0 : Int32)), none] (And.intro rfl (And.intro rfl (And.intro rfl (And.intro rfl (And.intro rfl trivial))))) (tl_64_1  (atf (I 91) 20 ((I 87 4) - (1 : Int32))) (0 : Int32) I2 _ h)))))
/- 105 -/
def f_105 (I : (Nat → Nat → Int32)) : Option (Int32 × (Nat → Nat → Int32)) :=
  (if 0 < (I 87 4) then ((f_64  I).bind fun q1 => (let I2 := up q1 87 4 ((q1 87 4) - (1 : Int32))
  (some ((I2 87 4), I2)))) else (some (((-1) : Int32), I)))
theorem m_105 {d : Nat} {κ : KT} {cs : Nat × Nat} {J : Nat → Nat → Int64} {W : Nat} {I : (Nat → Nat → Int32)} {r : (Int32 × (Nat → Nat → Int32))} (h : f_105  I = some r) : tm (d + 6) 105 [.ref 58] (cw κ cs I J W) (.inl (some (.int r.1))) (cw κ cs r.2 J W) :=
  tm_of me_105 rfl (Nat.le_of_ble_eq_true rfl) (
  tt_I (L1 := bk_105_1) (L2 := (bk_105_0.drop 4)) 4 [some (.ref 58)] [] (cw κ cs I J W) h (fun _ => rfl) (fun h =>
  tt_C (L1 := (bk_105_1.drop 7)) 7 [some (.ref 58)] [] (cw κ cs I J W) h (fun _ => rfl) (fun _ e => m_64 (d := d) e) fun q1 h =>
  let I2 := up q1 87 4 ((q1 87 4) - (1 : Int32))
  tt_R 11 (fun r => (.inl (some (.int r.1)))) (fun r => (cw κ cs r.2 J W)) h (fun _ => rfl)) (fun h =>
  tt_R 2 (fun r => (.inl (some (.int r.1)))) (fun r => (cw κ cs r.2 J W)) h (fun _ => rfl)))
/- 106 -/
def f_106 (x1 : Int32) (I : (Nat → Nat → Int32)) : Option (Int32 ⊕ Nat) :=
  ((f_56 x1 I).bind fun q1 => (if q1 = 0 then (some (.inr 1)) else (some (.inl (atf (I 90) 60 x1)))))
theorem m_106 {d : Nat} {κ : KT} {cs : Nat × Nat} {J : Nat → Nat → Int64} {W : Nat} {x1 : Int32} {I : (Nat → Nat → Int32)} {r : (Int32 ⊕ Nat)} (h : f_106 x1 I = some r) : tm (d + 2) 106 [.ref 58, .int x1] (cw κ cs I J W) (xi r) (cw κ (xc cs r) I J W) :=
  tm_of me_106 rfl (Nat.le_of_ble_eq_true rfl) (
  tt_C (L1 := (bk_106_0.drop 4)) 4 [some (.ref 58), some (.int x1)] [] (cw κ cs I J W) h (fun _ => rfl) (fun _ e => m_56 (d := d) e) fun q1 h =>
  tt_I (L1 := (bk_106_0.drop 5)) (L2 := bk_106_1) 1 [some (.ref 58), some (.int x1)] [] (cw κ cs I J W) h (fun _ => rfl) (fun h =>
  tt_R 1 (fun r => (xi r)) (fun r => (cw κ (xc cs r) I J W)) h (fun _ => rfl)) (fun h =>
  tt_K (L1 := (bk_106_1.drop 5)) 5 [some (.ref 58), some (.int x1)] [] (cw κ cs I J W) (fun _ => rfl) (m_at 90 60 x1 (Nat.le_of_ble_eq_true rfl) rfl)
  (tt_R 1 (fun r => (xi r)) (fun r => (cw κ (xc cs r) I J W)) h (fun _ => rfl))))
/- 107 -/
def f_107 (I : (Nat → Nat → Int32)) : Option Int64 :=
  ((f_66  I).bind fun q1 => (some q1))
theorem m_107 {d : Nat} {κ : KT} {cs : Nat × Nat} {J : Nat → Nat → Int64} {W : Nat} {I : (Nat → Nat → Int32)} {r : Int64} (h : f_107  I = some r) : tm (d + 2) 107 [.ref 58] (cw κ cs I J W) (.inl (some (.long r))) (cw κ cs I J W) :=
  tm_of me_107 rfl (Nat.le_of_ble_eq_true rfl) (
  tt_C (L1 := (bk_107_0.drop 5)) 5 [some (.ref 58)] [] (cw κ cs I J W) h (fun _ => rfl) (fun _ e => m_66 (d := d) e) fun q1 h =>
  tt_R 1 (fun r => (.inl (some (.long r)))) (fun r => (cw κ cs I J W)) h (fun _ => rfl))
/- 108 -/
def f_108 (I : (Nat → Nat → Int32)) : Option (Nat → Nat → Int32) :=
  (let I1 := cpyf I 88 89 60
  (some I1))
theorem m_108 {d : Nat} {κ : KT} {cs : Nat × Nat} {J : Nat → Nat → Int64} {W : Nat} {I : (Nat → Nat → Int32)} {r : (Nat → Nat → Int32)} (h : f_108  I = some r) : tm (d + 2) 108 [.ref 58] (cw κ cs I J W) (.inl none) (cw κ cs r J W) :=
  tm_of me_108 rfl (Nat.le_of_ble_eq_true rfl) (
  let I1 := cpyf I 88 89 60
  tt_K (L1 := (bk_108_0.drop 7)) 7 [some (.ref 58)] [] (cw κ cs I J W) (fun _ => rfl) (m_copy 88 60 89 60 (Nat.le_of_ble_eq_true rfl) (Nat.le_of_ble_eq_true rfl) rfl rfl (Nat.le_of_ble_eq_true rfl))
  (tt_R 1 (fun r => (.inl none)) (fun r => (cw κ cs r J W)) h (fun _ => rfl)))
/- 119 -/
def f_119 (x1 : Int32) (I : (Nat → Nat → Int32)) : Option Int32 :=
  ((f_121 x1 (3 : Int32) ).bind fun q1 => ((f_121 x1 (2 : Int32) ).bind fun q2 => ((f_121 x1 (1 : Int32) ).bind fun q3 => ((f_121 x1 (0 : Int32) ).bind fun q4 => ((f_58 q1 q2 q3 q4 I).bind fun q5 => (if (q5 = 0 ∨ q5 = 1) then some q5 else none))))))
theorem m_119 {d : Nat} {κ : KT} {cs : Nat × Nat} {J : Nat → Nat → Int64} {W : Nat} {x1 : Int32} {I : (Nat → Nat → Int32)} {r : Int32} (h : f_119 x1 I = some r) : tm (d + 3) 119 [.ref 58, .int x1] (cw κ cs I J W) (.inl (some (.int r))) (cw κ cs I J W) :=
  tm_of me_119 rfl (Nat.le_of_ble_eq_true rfl) (
  tt_C (L1 := (bk_119_0.drop 5)) 5 [some (.ref 58), some (.int x1)] [.ref 79] (cw κ cs I J W) h (fun _ => rfl) (fun _ e => m_121 (d := d + 2) e) fun q1 h =>
  tt_C (L1 := (bk_119_0.drop 8)) 3 [some (.ref 58), some (.int x1)] [.int q1, .ref 79] (cw κ cs I J W) h (fun _ => rfl) (fun _ e => m_121 (d := d + 2) e) fun q2 h =>
  tt_C (L1 := (bk_119_0.drop 11)) 3 [some (.ref 58), some (.int x1)] [.int q2, .int q1, .ref 79] (cw κ cs I J W) h (fun _ => rfl) (fun _ e => m_121 (d := d + 2) e) fun q3 h =>
  tt_C (L1 := (bk_119_0.drop 14)) 3 [some (.ref 58), some (.int x1)] [.int q3, .int q2, .int q1, .ref 79] (cw κ cs I J W) h (fun _ => rfl) (fun _ e => m_121 (d := d + 2) e) fun q4 h =>
  tt_C (L1 := (bk_119_0.drop 15)) 1 [some (.ref 58), some (.int x1)] [] (cw κ cs I J W) h (fun _ => rfl) (fun _ e => m_58 (d := d) e) fun q5 h =>
  tt_B 1 (fun r => (.inl (some (.int r)))) (fun r => (cw κ cs I J W)) h (fun q => Or.inr (Or.inl ⟨rfl, q⟩)) (fun _ => rfl))
/- 65 -/
def bd_65_1 (c1 : Int32 → (Nat → Nat → Int32) → Option (Int32 × (Nat → Nat → Int32))) (x3 : Int32) (I : (Nat → Nat → Int32)) : Option (Int32 × (Nat → Nat → Int32)) :=
  (if x3 < (I 74 4) then ((f_10 x3 I).bind fun q2 => (if (atf (I 88) 60 q2) = (atf (I 89) 60 x3) then (c1 (x3 + (1 : Int32)) I) else (some ((0 : Int32), I)))) else (some ((1 : Int32), I)))
def lb_65_1 : Int32 → (Nat → Nat → Int32) → Option (Int32 × (Nat → Nat → Int32)) := fx (fun _ _ => none) (bd_65_1 ) FU
def f_65 (x1 : Int32) (I : (Nat → Nat → Int32)) : Option (Int32 × (Nat → Nat → Int32)) :=
  ((f_67 x1 I).bind fun q1 => (lb_65_1  (0 : Int32) q1))
theorem tb_65_1 {d : Nat} {κ : KT} {cs : Nat × Nat} {J : Nat → Nat → Int64} {W : Nat} (c1 : Int32 → (Nat → Nat → Int32) → Option (Int32 × (Nat → Nat → Int32))) (k1 : ∀ (x3 : Int32) (I : (Nat → Nat → Int32)) (r : (Int32 × (Nat → Nat → Int32))), c1 x3 I = some r → tt (d + 5) me_65 bk_65_1 [some (.ref 87), none, some (.ref 74), some (.int x3)] [] (cw κ cs I J W) (.inl (some (.int r.1))) (cw κ cs r.2 J W)) (x3 : Int32) (I : (Nat → Nat → Int32)) (r : (Int32 × (Nat → Nat → Int32))) (h : bd_65_1  c1 x3 I = some r) : tt (d + 5) me_65 bk_65_1 [some (.ref 87), none, some (.ref 74), some (.int x3)] [] (cw κ cs I J W) (.inl (some (.int r.1))) (cw κ cs r.2 J W) :=
  tt_I (L1 := (bk_65_1.drop 4)) (L2 := bk_65_3) 4 [some (.ref 87), none, some (.ref 74), some (.int x3)] [] (cw κ cs I J W) h (fun _ => rfl) (fun h =>
  tt_C (L1 := (bk_65_1.drop 9)) 5 [some (.ref 87), none, some (.ref 74), some (.int x3)] [.ref 88] (cw κ cs I J W) h (fun _ => rfl) (fun _ e => m_10 (d := d + 2) e) fun q2 h =>
  tt_K (L1 := (bk_65_1.drop 10)) 1 [some (.ref 87), none, some (.ref 74), some (.int x3)] [] (cw κ cs I J W) (fun _ => rfl) (m_at 88 60 q2 (Nat.le_of_ble_eq_true rfl) rfl)
  (tt_K (L1 := (bk_65_1.drop 14)) 4 [some (.ref 87), none, some (.ref 74), some (.int x3)] [.int (atf (I 88) 60 q2)] (cw κ cs I J W) (fun _ => rfl) (m_at 89 60 x3 (Nat.le_of_ble_eq_true rfl) rfl)
  (tt_I (L1 := bk_65_2) (L2 := (bk_65_1.drop 15)) 1 [some (.ref 87), none, some (.ref 74), some (.int x3)] [] (cw κ cs I J W) h (fun _ => rfl) (fun h =>
  tt_J (L1 := bk_65_1) 1 [some (.ref 87), none, some (.ref 74), some (.int (x3 + (1 : Int32)))] [] (cw κ cs I J W) (fun _ => rfl) (tt_F [some (.ref 87), none, some (.ref 74), some (.int (x3 + (1 : Int32)))] (And.intro rfl (And.intro rfl (And.intro rfl trivial))) (k1 (x3 + (1 : Int32)) I _ h))) (fun h =>
  tt_R 2 (fun r => (.inl (some (.int r.1)))) (fun r => (cw κ cs r.2 J W)) h (fun _ => rfl))))) (fun h =>
  tt_R 2 (fun r => (.inl (some (.int r.1)))) (fun r => (cw κ cs r.2 J W)) h (fun _ => rfl))
theorem tn_65_1 {d : Nat} {κ : KT} {cs : Nat × Nat} {J : Nat → Nat → Int64} {W : Nat} : ∀ (n : Nat) (x3 : Int32) (I : (Nat → Nat → Int32)) (r : (Int32 × (Nat → Nat → Int32))), fx (fun _ _ => none) (bd_65_1 ) n x3 I = some r → tt (d + 5) me_65 bk_65_1 [some (.ref 87), none, some (.ref 74), some (.int x3)] [] (cw κ cs I J W) (.inl (some (.int r.1))) (cw κ cs r.2 J W)
  | 0 => fun _ _ _ h => nomatch h
  | n + 1 => fun x3 I r h => tb_65_1  (fx _ (bd_65_1 ) n) (tn_65_1  n) x3 I r h
theorem tl_65_1 {d : Nat} {κ : KT} {cs : Nat × Nat} {J : Nat → Nat → Int64} {W : Nat} (x3 : Int32) (I : (Nat → Nat → Int32)) (r : (Int32 × (Nat → Nat → Int32))) (h : lb_65_1  x3 I = some r) : tt (d + 5) me_65 bk_65_1 [some (.ref 87), none, some (.ref 74), some (.int x3)] [] (cw κ cs I J W) (.inl (some (.int r.1))) (cw κ cs r.2 J W) := tn_65_1  FU x3 I r h
theorem m_65 {d : Nat} {κ : KT} {cs : Nat × Nat} {J : Nat → Nat → Int64} {W : Nat} {x1 : Int32} {I : (Nat → Nat → Int32)} {r : (Int32 × (Nat → Nat → Int32))} (h : f_65 x1 I = some r) : tm (d + 5) 65 [.ref 87, .int x1, .ref 74] (cw κ cs I J W) (.inl (some (.int r.1))) (cw κ cs r.2 J W) :=
  tm_of me_65 rfl (Nat.le_of_ble_eq_true rfl) (
  tt_C (L1 := (bk_65_0.drop 3)) 3 [some (.ref 87), some (.int x1), some (.ref 74), none] [] (cw κ cs I J W) h (fun _ => rfl) (fun _ e => m_67 (d := d) e) fun q1 h =>
  tt_J (L1 := bk_65_1) 1 [some (.ref 87), some (.int x1), some (.ref 74), some (.int (0 : Int32))] [] (cw κ cs q1 J W) (fun _ => rfl) (tt_F [some (.ref 87), none, some (.ref 74), some (.int (0 : Int32))] (And.intro rfl (And.intro rfl (And.intro rfl trivial))) (tl_65_1  (0 : Int32) q1 _ h)))
