/-! functions, by wip/whole/sy.py -/
/- 101 -/
def lb_101_1 (I : (Nat → Nat → Int32)) : Option ((Int32 ⊕ Nat) × (Nat → Nat → Int32)) :=
  (some ((.inr 1), I))
def lb_101_3 (I : (Nat → Nat → Int32)) : Option ((Int32 ⊕ Nat) × (Nat → Nat → Int32)) :=
  (some ((.inr 0), I))
def bd_101_5 (c5 : Int32 → Int32 → Int32 → Int32 → (Nat → Nat → Int32) → Option ((Int32 ⊕ Nat) × (Nat → Nat → Int32))) (x3 : Int32) (x4 : Int32) (x5 : Int32) (x6 : Int32) (I : (Nat → Nat → Int32)) : Option ((Int32 ⊕ Nat) × (Nat → Nat → Int32)) :=
  (if x6 < x3 then ((f_51 x6 I).bind fun q4 => ((f_52 x6 I).bind fun q5 => ((f_3 q4 q5 I).bind fun q6 => ((f_8 x4 q6).bind fun q7 => ((f_53 x6 q7 q6).bind fun q8 => ((f_8 x5 q6).bind fun q9 => ((f_4 q8 q7 q9 q6).bind fun q10 => ((f_10 x4 q10).bind fun q11 => ((f_10 x5 q10).bind fun q12 => (c5 x3 q11 q12 (x6 + (1 : Int32)) q10)))))))))) else (some ((.inl (((60 : Int32) * x4) + x5)), I)))
def lb_101_5 : Int32 → Int32 → Int32 → Int32 → (Nat → Nat → Int32) → Option ((Int32 ⊕ Nat) × (Nat → Nat → Int32)) := fx (fun _ _ _ _ _ => none) (bd_101_5 ) FU
def f_101 (x1 : Int32) (x2 : Int32) (x3 : Int32) (I : (Nat → Nat → Int32)) : Option ((Int32 ⊕ Nat) × (Nat → Nat → Int32)) :=
  ((f_56 x1 I).bind fun q1 => (if q1 = 0 then (lb_101_1   I) else ((f_56 x2 I).bind fun q2 => (if q2 = 0 then (lb_101_1   I) else ((f_122 x3 (0 : Int32) (60 : Int32) ).bind fun q3 => (if q3 = 0 then (lb_101_3   I) else (if x1 = x2 then (lb_101_3   I) else (lb_101_5  x3 x1 x2 (0 : Int32) I))))))))
theorem tl_101_1 {d : Nat} {κ : Nat × Option Nat} {cs : Nat × Nat} {J : Nat → Nat → Int64} {W : Nat} (I : (Nat → Nat → Int32)) (r : ((Int32 ⊕ Nat) × (Nat → Nat → Int32))) (h : lb_101_1   I = some r) : tt (d + 4) me_101 bk_101_1 [none, none, none, none, none, none, none, none] [] (cw κ cs I J W) (xi r.1) (cw κ (xc cs r.1) r.2 J W) :=
  tt_R 1 (fun r => (xi r.1)) (fun r => (cw κ (xc cs r.1) r.2 J W)) h (fun _ => rfl)
theorem tl_101_3 {d : Nat} {κ : Nat × Option Nat} {cs : Nat × Nat} {J : Nat → Nat → Int64} {W : Nat} (I : (Nat → Nat → Int32)) (r : ((Int32 ⊕ Nat) × (Nat → Nat → Int32))) (h : lb_101_3   I = some r) : tt (d + 4) me_101 bk_101_3 [none, none, none, none, none, none, none, none] [] (cw κ cs I J W) (xi r.1) (cw κ (xc cs r.1) r.2 J W) :=
  tt_R 1 (fun r => (xi r.1)) (fun r => (cw κ (xc cs r.1) r.2 J W)) h (fun _ => rfl)
theorem tb_101_5 {d : Nat} {κ : Nat × Option Nat} {cs : Nat × Nat} {J : Nat → Nat → Int64} {W : Nat} (c5 : Int32 → Int32 → Int32 → Int32 → (Nat → Nat → Int32) → Option ((Int32 ⊕ Nat) × (Nat → Nat → Int32))) (k5 : ∀ (x3 : Int32) (x4 : Int32) (x5 : Int32) (x6 : Int32) (I : (Nat → Nat → Int32)) (r : ((Int32 ⊕ Nat) × (Nat → Nat → Int32))), c5 x3 x4 x5 x6 I = some r → tt (d + 4) me_101 bk_101_5 [some (.ref 58), none, none, some (.int x3), some (.int x4), some (.int x5), some (.int x6), none] [] (cw κ cs I J W) (xi r.1) (cw κ (xc cs r.1) r.2 J W)) (x3 : Int32) (x4 : Int32) (x5 : Int32) (x6 : Int32) (I : (Nat → Nat → Int32)) (r : ((Int32 ⊕ Nat) × (Nat → Nat → Int32))) (h : bd_101_5  c5 x3 x4 x5 x6 I = some r) : tt (d + 4) me_101 bk_101_5 [some (.ref 58), none, none, some (.int x3), some (.int x4), some (.int x5), some (.int x6), none] [] (cw κ cs I J W) (xi r.1) (cw κ (xc cs r.1) r.2 J W) :=
  tt_I (L1 := (bk_101_5.drop 3)) (L2 := bk_101_6) 3 [some (.ref 58), none, none, some (.int x3), some (.int x4), some (.int x5), some (.int x6), none] [] (cw κ cs I J W) h (fun _ => rfl) (fun h =>
  tt_C (L1 := (bk_101_5.drop 9)) 6 [some (.ref 58), none, none, some (.int x3), some (.int x4), some (.int x5), some (.int x6), none] [.ref 74] (cw κ cs I J W) h (fun _ => rfl) (fun _ e => m_51 (d := d + 1) e) fun q4 h =>
  tt_C (L1 := (bk_101_5.drop 13)) 4 [some (.ref 58), none, none, some (.int x3), some (.int x4), some (.int x5), some (.int x6), none] [.int q4, .ref 74] (cw κ cs I J W) h (fun _ => rfl) (fun _ e => m_52 (d := d + 1) e) fun q5 h =>
  tt_C (L1 := (bk_101_5.drop 14)) 1 [some (.ref 58), none, none, some (.int x3), some (.int x4), some (.int x5), some (.int x6), none] [] (cw κ cs I J W) h (fun _ => rfl) (fun _ e => m_3 (d := d + 3) e) fun q6 h =>
  tt_C (L1 := (bk_101_5.drop 18)) 4 [some (.ref 58), none, none, some (.int x3), some (.int x4), some (.int x5), some (.int x6), none] [] (cw κ cs q6 J W) h (fun _ => rfl) (fun _ e => m_8 (d := d + 2) e) fun q7 h =>
  tt_C (L1 := (bk_101_5.drop 26)) 8 [some (.ref 58), none, none, some (.int x3), some (.int x4), some (.int x5), some (.int x6), some (.int q7)] [.ref 74] (cw κ cs q6 J W) h (fun _ => rfl) (fun _ e => m_53 (d := d + 1) e) fun q8 h =>
  tt_C (L1 := (bk_101_5.drop 31)) 5 [some (.ref 58), none, none, some (.int x3), some (.int x4), some (.int x5), some (.int x6), some (.int q7)] [.int q7, .int q8, .ref 74] (cw κ cs q6 J W) h (fun _ => rfl) (fun _ e => m_8 (d := d + 2) e) fun q9 h =>
  tt_C (L1 := (bk_101_5.drop 32)) 1 [some (.ref 58), none, none, some (.int x3), some (.int x4), some (.int x5), some (.int x6), some (.int q7)] [] (cw κ cs q6 J W) h (fun _ => rfl) (fun _ e => m_4 (d := d) e) fun q10 h =>
  tt_C (L1 := (bk_101_5.drop 36)) 4 [some (.ref 58), none, none, some (.int x3), some (.int x4), some (.int x5), some (.int x6), some (.int q7)] [] (cw κ cs q10 J W) h (fun _ => rfl) (fun _ e => m_10 (d := d + 1) e) fun q11 h =>
  tt_C (L1 := (bk_101_5.drop 41)) 5 [some (.ref 58), none, none, some (.int x3), some (.int q11), some (.int x5), some (.int x6), some (.int q7)] [] (cw κ cs q10 J W) h (fun _ => rfl) (fun _ e => m_10 (d := d + 1) e) fun q12 h =>
  tt_J (L1 := bk_101_5) 2 [some (.ref 58), none, none, some (.int x3), some (.int q11), some (.int q12), some (.int (x6 + (1 : Int32))), some (.int q7)] [] (cw κ cs q10 J W) (fun _ => rfl) (tt_F [some (.ref 58), none, none, some (.int x3), some (.int q11), some (.int q12), some (.int (x6 + (1 : Int32))), none] (And.intro rfl (And.intro rfl (And.intro rfl (And.intro rfl (And.intro rfl trivial))))) (k5 x3 q11 q12 (x6 + (1 : Int32)) q10 _ h))) (fun h =>
  tt_R 6 (fun r => (xi r.1)) (fun r => (cw κ (xc cs r.1) r.2 J W)) h (fun _ => rfl))
theorem tn_101_5 {d : Nat} {κ : Nat × Option Nat} {cs : Nat × Nat} {J : Nat → Nat → Int64} {W : Nat} : ∀ (n : Nat) (x3 : Int32) (x4 : Int32) (x5 : Int32) (x6 : Int32) (I : (Nat → Nat → Int32)) (r : ((Int32 ⊕ Nat) × (Nat → Nat → Int32))), fx (fun _ _ _ _ _ => none) (bd_101_5 ) n x3 x4 x5 x6 I = some r → tt (d + 4) me_101 bk_101_5 [some (.ref 58), none, none, some (.int x3), some (.int x4), some (.int x5), some (.int x6), none] [] (cw κ cs I J W) (xi r.1) (cw κ (xc cs r.1) r.2 J W)
  | 0 => fun _ _ _ _ _ _ h => nomatch h
  | n + 1 => fun x3 x4 x5 x6 I r h => tb_101_5  (fx _ (bd_101_5 ) n) (tn_101_5  n) x3 x4 x5 x6 I r h
theorem tl_101_5 {d : Nat} {κ : Nat × Option Nat} {cs : Nat × Nat} {J : Nat → Nat → Int64} {W : Nat} (x3 : Int32) (x4 : Int32) (x5 : Int32) (x6 : Int32) (I : (Nat → Nat → Int32)) (r : ((Int32 ⊕ Nat) × (Nat → Nat → Int32))) (h : lb_101_5  x3 x4 x5 x6 I = some r) : tt (d + 4) me_101 bk_101_5 [some (.ref 58), none, none, some (.int x3), some (.int x4), some (.int x5), some (.int x6), none] [] (cw κ cs I J W) (xi r.1) (cw κ (xc cs r.1) r.2 J W) := tn_101_5  FU x3 x4 x5 x6 I r h
theorem m_101 {d : Nat} {κ : Nat × Option Nat} {cs : Nat × Nat} {J : Nat → Nat → Int64} {W : Nat} {x1 : Int32} {x2 : Int32} {x3 : Int32} {I : (Nat → Nat → Int32)} {r : ((Int32 ⊕ Nat) × (Nat → Nat → Int32))} (h : f_101 x1 x2 x3 I = some r) : tm (d + 4) 101 [.ref 58, .int x1, .int x2, .int x3] (cw κ cs I J W) (xi r.1) (cw κ (xc cs r.1) r.2 J W) :=
  tm_of me_101 rfl (Nat.le_of_ble_eq_true rfl) (
  tt_C (L1 := (bk_101_0.drop 4)) 4 [some (.ref 58), some (.int x1), some (.int x2), some (.int x3), none, none, none, none] [] (cw κ cs I J W) h (fun _ => rfl) (fun _ e => m_56 (d := d + 2) e) fun q1 h =>
  tt_I (L1 := bk_101_1) (L2 := (bk_101_0.drop 5)) 1 [some (.ref 58), some (.int x1), some (.int x2), some (.int x3), none, none, none, none] [] (cw κ cs I J W) h (fun _ => rfl) (fun h =>
  tt_F [none, none, none, none, none, none, none, none] trivial (tl_101_1   I _ h)) (fun h =>
  tt_C (L1 := (bk_101_0.drop 9)) 4 [some (.ref 58), some (.int x1), some (.int x2), some (.int x3), none, none, none, none] [] (cw κ cs I J W) h (fun _ => rfl) (fun _ e => m_56 (d := d + 2) e) fun q2 h =>
  tt_I (L1 := bk_101_1) (L2 := bk_101_2) 1 [some (.ref 58), some (.int x1), some (.int x2), some (.int x3), none, none, none, none] [] (cw κ cs I J W) h (fun _ => rfl) (fun h =>
  tt_F [none, none, none, none, none, none, none, none] trivial (tl_101_1   I _ h)) (fun h =>
  tt_C (L1 := (bk_101_2.drop 4)) 4 [some (.ref 58), some (.int x1), some (.int x2), some (.int x3), none, none, none, none] [] (cw κ cs I J W) h (fun _ => rfl) (fun _ e => m_122 (d := d + 3) e) fun q3 h =>
  tt_I (L1 := bk_101_3) (L2 := (bk_101_2.drop 5)) 1 [some (.ref 58), some (.int x1), some (.int x2), some (.int x3), none, none, none, none] [] (cw κ cs I J W) h (fun _ => rfl) (fun h =>
  tt_F [none, none, none, none, none, none, none, none] trivial (tl_101_3   I _ h)) (fun h =>
  tt_I (L1 := bk_101_3) (L2 := bk_101_4) 3 [some (.ref 58), some (.int x1), some (.int x2), some (.int x3), none, none, none, none] [] (cw κ cs I J W) h (fun _ => rfl) (fun h =>
  tt_F [none, none, none, none, none, none, none, none] trivial (tl_101_3   I _ h)) (fun h =>
  tt_J (L1 := bk_101_5) 5 [some (.ref 58), some (.int x1), some (.int x2), some (.int x3), some (.int x1), some (.int x2), some (.int (0 : Int32)), none] [] (cw κ cs I J W) (fun _ => rfl) (tt_F [some (.ref 58), none, none, some (.int x3), some (.int x1), some (.int x2), some (.int (0 : Int32)), none] (And.intro rfl (And.intro rfl (And.intro rfl (And.intro rfl (And.intro rfl trivial))))) (tl_101_5  x3 x1 x2 (0 : Int32) I _ h)))))))
/- 103 -/
def f_103 (x1 : Int32) (I : (Nat → Nat → Int32)) : Option (Int32 ⊕ Nat) :=
  ((f_56 x1 I).bind fun q1 => (if q1 = 0 then (some (.inr 1)) else (some (.inl (atf (I 88) 60 x1)))))
theorem m_103 {d : Nat} {κ : Nat × Option Nat} {cs : Nat × Nat} {J : Nat → Nat → Int64} {W : Nat} {x1 : Int32} {I : (Nat → Nat → Int32)} {r : (Int32 ⊕ Nat)} (h : f_103 x1 I = some r) : tm (d + 2) 103 [.ref 58, .int x1] (cw κ cs I J W) (xi r) (cw κ (xc cs r) I J W) :=
  tm_of me_103 rfl (Nat.le_of_ble_eq_true rfl) (
  tt_C (L1 := (bk_103_0.drop 4)) 4 [some (.ref 58), some (.int x1)] [] (cw κ cs I J W) h (fun _ => rfl) (fun _ e => m_56 (d := d) e) fun q1 h =>
  tt_I (L1 := (bk_103_0.drop 5)) (L2 := bk_103_1) 1 [some (.ref 58), some (.int x1)] [] (cw κ cs I J W) h (fun _ => rfl) (fun h =>
  tt_R 1 (fun r => (xi r)) (fun r => (cw κ (xc cs r) I J W)) h (fun _ => rfl)) (fun h =>
  tt_K (L1 := (bk_103_1.drop 5)) 5 [some (.ref 58), some (.int x1)] [] (cw κ cs I J W) (fun _ => rfl) (m_at 88 60 x1 (Nat.le_of_ble_eq_true rfl) rfl)
  (tt_R 1 (fun r => (xi r)) (fun r => (cw κ (xc cs r) I J W)) h (fun _ => rfl))))
/- 120 -/
def f_120 (x0 : Int32) (x1 : Int32) (x2 : Int32) (x3 : Int32) : Option Int32 :=
  (some ((((((x0 * (6 : Int32)) + x1) * (6 : Int32)) + x2) * (6 : Int32)) + x3))
theorem m_120 {d : Nat} {κ : Nat × Option Nat} {cs : Nat × Nat} {I : Nat → Nat → Int32} {J : Nat → Nat → Int64} {W : Nat} {x0 : Int32} {x1 : Int32} {x2 : Int32} {x3 : Int32} {r : Int32} (h : f_120 x0 x1 x2 x3  = some r) : tm d 120 [.int x0, .int x1, .int x2, .int x3] (cw κ cs I J W) (.inl (some (.int r))) (cw κ cs I J W) :=
  tm_of me_120 rfl (Nat.le_of_ble_eq_true rfl) (
  tt_R 14 (fun r => (.inl (some (.int r)))) (fun r => (cw κ cs I J W)) h (fun _ => rfl))
/- 67 -/
def f_67 (x0 : Int32) (I : (Nat → Nat → Int32)) : Option (Nat → Nat → Int32) :=
  ((f_121 x0 (3 : Int32) ).bind fun q1 => ((f_121 x0 (2 : Int32) ).bind fun q2 => ((f_3 q1 q2 I).bind fun q3 => ((f_121 x0 (1 : Int32) ).bind fun q4 => ((f_121 x0 (0 : Int32) ).bind fun q5 => ((f_121 x0 (0 : Int32) ).bind fun q6 => ((f_4 q4 q5 q6 q3).bind fun q7 => (some q7))))))))
theorem m_67 {d : Nat} {κ : Nat × Option Nat} {cs : Nat × Nat} {J : Nat → Nat → Int64} {W : Nat} {x0 : Int32} {I : (Nat → Nat → Int32)} {r : (Nat → Nat → Int32)} (h : f_67 x0 I = some r) : tm (d + 4) 67 [.int x0, .ref 74] (cw κ cs I J W) (.inl none) (cw κ cs r J W) :=
  tm_of me_67 rfl (Nat.le_of_ble_eq_true rfl) (
  tt_C (L1 := (bk_67_0.drop 4)) 4 [some (.int x0), some (.ref 74)] [.ref 74] (cw κ cs I J W) h (fun _ => rfl) (fun _ e => m_121 (d := d + 3) e) fun q1 h =>
  tt_C (L1 := (bk_67_0.drop 7)) 3 [some (.int x0), some (.ref 74)] [.int q1, .ref 74] (cw κ cs I J W) h (fun _ => rfl) (fun _ e => m_121 (d := d + 3) e) fun q2 h =>
  tt_C (L1 := (bk_67_0.drop 8)) 1 [some (.int x0), some (.ref 74)] [] (cw κ cs I J W) h (fun _ => rfl) (fun _ e => m_3 (d := d + 3) e) fun q3 h =>
  tt_C (L1 := (bk_67_0.drop 12)) 4 [some (.int x0), some (.ref 74)] [.ref 74] (cw κ cs q3 J W) h (fun _ => rfl) (fun _ e => m_121 (d := d + 3) e) fun q4 h =>
  tt_C (L1 := (bk_67_0.drop 15)) 3 [some (.int x0), some (.ref 74)] [.int q4, .ref 74] (cw κ cs q3 J W) h (fun _ => rfl) (fun _ e => m_121 (d := d + 3) e) fun q5 h =>
  tt_C (L1 := (bk_67_0.drop 18)) 3 [some (.int x0), some (.ref 74)] [.int q5, .int q4, .ref 74] (cw κ cs q3 J W) h (fun _ => rfl) (fun _ e => m_121 (d := d + 3) e) fun q6 h =>
  tt_C (L1 := (bk_67_0.drop 19)) 1 [some (.int x0), some (.ref 74)] [] (cw κ cs q3 J W) h (fun _ => rfl) (fun _ e => m_4 (d := d) e) fun q7 h =>
  tt_R 1 (fun r => (.inl none)) (fun r => (cw κ cs r J W)) h (fun _ => rfl))
/- 68 -/
def lb_68_2 (s0 : Int32) (I : (Nat → Nat → Int32)) : Option Int32 :=
  (some s0)
def f_68 (x0 : Int32) (x1 : Int32) (I : (Nat → Nat → Int32)) : Option Int32 :=
  ((f_8 x0 I).bind fun q1 => ((f_121 x1 (0 : Int32) ).bind fun q2 => (if q1 = q2 then (lb_68_2  (0 : Int32) I) else (lb_68_2  (1 : Int32) I))))
theorem tl_68_2 {d : Nat} {κ : Nat × Option Nat} {cs : Nat × Nat} {J : Nat → Nat → Int64} {W : Nat} (s0 : Int32) (I : (Nat → Nat → Int32)) (r : Int32) (h : lb_68_2  s0 I = some r) : tt (d + 2) me_68 bk_68_2 [none, none, none] [.int s0] (cw κ cs I J W) (.inl (some (.int r))) (cw κ cs I J W) :=
  tt_R 1 (fun r => (.inl (some (.int r)))) (fun r => (cw κ cs I J W)) h (fun _ => rfl)
theorem m_68 {d : Nat} {κ : Nat × Option Nat} {cs : Nat × Nat} {J : Nat → Nat → Int64} {W : Nat} {x0 : Int32} {x1 : Int32} {I : (Nat → Nat → Int32)} {r : Int32} (h : f_68 x0 x1 I = some r) : tm (d + 2) 68 [.int x0, .int x1, .ref 74] (cw κ cs I J W) (.inl (some (.int r))) (cw κ cs I J W) :=
  tm_of me_68 rfl (Nat.le_of_ble_eq_true rfl) (
  tt_C (L1 := (bk_68_0.drop 3)) 3 [some (.int x0), some (.int x1), some (.ref 74)] [] (cw κ cs I J W) h (fun _ => rfl) (fun _ e => m_8 (d := d) e) fun q1 h =>
  tt_C (L1 := (bk_68_0.drop 6)) 3 [some (.int x0), some (.int x1), some (.ref 74)] [.int q1] (cw κ cs I J W) h (fun _ => rfl) (fun _ e => m_121 (d := d + 1) e) fun q2 h =>
  tt_I (L1 := (bk_68_0.drop 7)) (L2 := bk_68_1) 1 [some (.int x0), some (.int x1), some (.ref 74)] [] (cw κ cs I J W) h (fun _ => rfl) (fun h =>
  tt_J (L1 := bk_68_2) 1 [some (.int x0), some (.int x1), some (.ref 74)] [.int (0 : Int32)] (cw κ cs I J W) (fun _ => rfl) (tt_F [none, none, none] trivial (tl_68_2  (0 : Int32) I _ h))) (fun h =>
  tt_J (L1 := bk_68_2) 0 [some (.int x0), some (.int x1), some (.ref 74)] [.int (1 : Int32)] (cw κ cs I J W) (fun _ => rfl) (tt_F [none, none, none] trivial (tl_68_2  (1 : Int32) I _ h))))
/- 63 -/
def bd_63_1 (c1 : Int32 → Int32 → (Nat → Nat → Int32) → Option (Nat → Nat → Int32)) (x3 : Int32) (x4 : Int32) (I : (Nat → Nat → Int32)) : Option (Nat → Nat → Int32) :=
  (if x4 < (I 74 4) then ((f_10 x4 I).bind fun q3 => (let I4 := putf I 88 60 q3 (atf (I 59) 60 x4)
  ((f_68 x4 x3 I4).bind fun q5 => (let I6 := putf I4 90 60 (atf (I 59) 60 x4) ((atf (I4 90) 60 (atf (I 59) 60 x4)) + q5)
  (c1 x3 (x4 + (1 : Int32)) I6))))) else (some I))
def lb_63_1 : Int32 → Int32 → (Nat → Nat → Int32) → Option (Nat → Nat → Int32) := fx (fun _ _ _ => none) (bd_63_1 ) FU
def f_63 (I : (Nat → Nat → Int32)) : Option (Nat → Nat → Int32) :=
  ((f_67 (atf (I 91) 20 ((I 87 4) - (1 : Int32))) I).bind fun q1 => (let I2 := cpyf q1 88 59 60
  (lb_63_1  (atf (I 91) 20 ((I 87 4) - (1 : Int32))) (0 : Int32) I2)))
theorem tb_63_1 {d : Nat} {κ : Nat × Option Nat} {cs : Nat × Nat} {J : Nat → Nat → Int64} {W : Nat} (c1 : Int32 → Int32 → (Nat → Nat → Int32) → Option (Nat → Nat → Int32)) (k1 : ∀ (x3 : Int32) (x4 : Int32) (I : (Nat → Nat → Int32)) (r : (Nat → Nat → Int32)), c1 x3 x4 I = some r → tt (d + 5) me_63 bk_63_1 [some (.ref 87), some (.ref 74), some (.ref 59), some (.int x3), some (.int x4), none] [] (cw κ cs I J W) (.inl none) (cw κ cs r J W)) (x3 : Int32) (x4 : Int32) (I : (Nat → Nat → Int32)) (r : (Nat → Nat → Int32)) (h : bd_63_1  c1 x3 x4 I = some r) : tt (d + 5) me_63 bk_63_1 [some (.ref 87), some (.ref 74), some (.ref 59), some (.int x3), some (.int x4), none] [] (cw κ cs I J W) (.inl none) (cw κ cs r J W) :=
  tt_I (L1 := (bk_63_1.drop 4)) (L2 := bk_63_2) 4 [some (.ref 87), some (.ref 74), some (.ref 59), some (.int x3), some (.int x4), none] [] (cw κ cs I J W) h (fun _ => rfl) (fun h =>
  tt_K (L1 := (bk_63_1.drop 7)) 3 [some (.ref 87), some (.ref 74), some (.ref 59), some (.int x3), some (.int x4), none] [] (cw κ cs I J W) (fun _ => rfl) (m_at 59 60 x4 (Nat.le_of_ble_eq_true rfl) rfl)
  (tt_C (L1 := (bk_63_1.drop 13)) 6 [some (.ref 87), some (.ref 74), some (.ref 59), some (.int x3), some (.int x4), some (.int (atf (I 59) 60 x4))] [.ref 88] (cw κ cs I J W) h (fun _ => rfl) (fun _ e => m_10 (d := d + 2) e) fun q3 h =>
  let I4 := putf I 88 60 q3 (atf (I 59) 60 x4)
  tt_K (L1 := (bk_63_1.drop 15)) 2 [some (.ref 87), some (.ref 74), some (.ref 59), some (.int x3), some (.int x4), some (.int (atf (I 59) 60 x4))] [] (cw κ cs I J W) (fun _ => rfl) (m_put 88 60 q3 (atf (I 59) 60 x4) (Nat.le_of_ble_eq_true rfl) rfl (Nat.le_of_ble_eq_true rfl))
  (tt_K (L1 := (bk_63_1.drop 22)) 7 [some (.ref 87), some (.ref 74), some (.ref 59), some (.int x3), some (.int x4), some (.int (atf (I 59) 60 x4))] [.int (atf (I 59) 60 x4), .ref 90] (cw κ cs I4 J W) (fun _ => rfl) (m_at 90 60 (atf (I 59) 60 x4) (Nat.le_of_ble_eq_true rfl) rfl)
  (tt_C (L1 := (bk_63_1.drop 26)) 4 [some (.ref 87), some (.ref 74), some (.ref 59), some (.int x3), some (.int x4), some (.int (atf (I 59) 60 x4))] [.int (atf (I4 90) 60 (atf (I 59) 60 x4)), .int (atf (I 59) 60 x4), .ref 90] (cw κ cs I4 J W) h (fun _ => rfl) (fun _ e => m_68 (d := d + 2) e) fun q5 h =>
  let I6 := putf I4 90 60 (atf (I 59) 60 x4) ((atf (I4 90) 60 (atf (I 59) 60 x4)) + q5)
  tt_K (L1 := (bk_63_1.drop 28)) 2 [some (.ref 87), some (.ref 74), some (.ref 59), some (.int x3), some (.int x4), some (.int (atf (I 59) 60 x4))] [] (cw κ cs I4 J W) (fun _ => rfl) (m_put 90 60 (atf (I 59) 60 x4) ((atf (I4 90) 60 (atf (I 59) 60 x4)) + q5) (Nat.le_of_ble_eq_true rfl) rfl (Nat.le_of_ble_eq_true rfl))
  (tt_J (L1 := bk_63_1) 1 [some (.ref 87), some (.ref 74), some (.ref 59), some (.int x3), some (.int (x4 + (1 : Int32))), some (.int (atf (I 59) 60 x4))] [] (cw κ cs I6 J W) (fun _ => rfl) (tt_F [some (.ref 87), some (.ref 74), some (.ref 59), some (.int x3), some (.int (x4 + (1 : Int32))), none] (And.intro rfl (And.intro rfl (And.intro rfl (And.intro rfl (And.intro rfl trivial))))) (k1 x3 (x4 + (1 : Int32)) I6 _ h))))))) (fun h =>
  tt_R 1 (fun r => (.inl none)) (fun r => (cw κ cs r J W)) h (fun _ => rfl))
theorem tn_63_1 {d : Nat} {κ : Nat × Option Nat} {cs : Nat × Nat} {J : Nat → Nat → Int64} {W : Nat} : ∀ (n : Nat) (x3 : Int32) (x4 : Int32) (I : (Nat → Nat → Int32)) (r : (Nat → Nat → Int32)), fx (fun _ _ _ => none) (bd_63_1 ) n x3 x4 I = some r → tt (d + 5) me_63 bk_63_1 [some (.ref 87), some (.ref 74), some (.ref 59), some (.int x3), some (.int x4), none] [] (cw κ cs I J W) (.inl none) (cw κ cs r J W)
  | 0 => fun _ _ _ _ h => nomatch h
  | n + 1 => fun x3 x4 I r h => tb_63_1  (fx _ (bd_63_1 ) n) (tn_63_1  n) x3 x4 I r h
theorem tl_63_1 {d : Nat} {κ : Nat × Option Nat} {cs : Nat × Nat} {J : Nat → Nat → Int64} {W : Nat} (x3 : Int32) (x4 : Int32) (I : (Nat → Nat → Int32)) (r : (Nat → Nat → Int32)) (h : lb_63_1  x3 x4 I = some r) : tt (d + 5) me_63 bk_63_1 [some (.ref 87), some (.ref 74), some (.ref 59), some (.int x3), some (.int x4), none] [] (cw κ cs I J W) (.inl none) (cw κ cs r J W) := tn_63_1  FU x3 x4 I r h
theorem m_63 {d : Nat} {κ : Nat × Option Nat} {cs : Nat × Nat} {J : Nat → Nat → Int64} {W : Nat} {I : (Nat → Nat → Int32)} {r : (Nat → Nat → Int32)} (h : f_63  I = some r) : tm (d + 5) 63 [.ref 87, .ref 74, .ref 59] (cw κ cs I J W) (.inl none) (cw κ cs r J W) :=
  tm_of me_63 rfl (Nat.le_of_ble_eq_true rfl) (
  tt_K (L1 := (bk_63_0.drop 7)) 7 [some (.ref 87), some (.ref 74), some (.ref 59), none, none, none] [] (cw κ cs I J W) (fun _ => rfl) (m_at 91 20 ((I 87 4) - (1 : Int32)) (Nat.le_of_ble_eq_true rfl) rfl)
  (tt_C (L1 := (bk_63_0.drop 11)) 4 [some (.ref 87), some (.ref 74), some (.ref 59), some (.int (atf (I 91) 20 ((I 87 4) - (1 : Int32)))), none, none] [] (cw κ cs I J W) h (fun _ => rfl) (fun _ e => m_67 (d := d) e) fun q1 h =>
  let I2 := cpyf q1 88 59 60
  tt_K (L1 := (bk_63_0.drop 15)) 4 [some (.ref 87), some (.ref 74), some (.ref 59), some (.int (atf (I 91) 20 ((I 87 4) - (1 : Int32)))), none, none] [] (cw κ cs q1 J W) (fun _ => rfl) (m_copy 88 60 59 60 (Nat.le_of_ble_eq_true rfl) (Nat.le_of_ble_eq_true rfl) rfl rfl (Nat.le_of_ble_eq_true rfl))
  (tt_J (L1 := bk_63_1) 1 [some (.ref 87), some (.ref 74), some (.ref 59), some (.int (atf (I 91) 20 ((I 87 4) - (1 : Int32)))), some (.int (0 : Int32)), none] [] (cw κ cs I2 J W) (fun _ => rfl) (tt_F [some (.ref 87), some (.ref 74), some (.ref 59), some (.int (atf (I 91) 20 ((I 87 4) - (1 : Int32)))), some (.int (0 : Int32)), none] (And.intro rfl (And.intro rfl (And.intro rfl (And.intro rfl (And.intro rfl trivial))))) (tl_63_1  (atf (I 91) 20 ((I 87 4) - (1 : Int32))) (0 : Int32) I2 _ h)))))
/- 104 -/
def lb_104_1 (I : (Nat → Nat → Int32)) : Option (Int32 × (Nat → Nat → Int32)) :=
  (let I1 := up I 58 12 ((I 58 12) + (1 : Int32))
  (some (((-1) : Int32), I1)))
def f_104 (x1 : Int32) (x2 : Int32) (x3 : Int32) (x4 : Int32) (I : (Nat → Nat → Int32)) : Option (Int32 × (Nat → Nat → Int32)) :=
  (if (I 87 4) < (20 : Int32) then ((f_58 x1 x2 x3 x4 I).bind fun q2 => (if q2 = 0 then (lb_104_1   I) else ((f_120 x1 x2 x3 x4 ).bind fun q3 => ((f_62 q3 I).bind fun q4 => ((f_63  q4).bind fun q5 => ((f_66  q5).bind fun q6 => ((f_210 q6 ).bind fun q7 => (some (q7, q5))))))))) else (lb_104_1   I))
theorem tl_104_1 {d : Nat} {κ : Nat × Option Nat} {cs : Nat × Nat} {J : Nat → Nat → Int64} {W : Nat} (I : (Nat → Nat → Int32)) (r : (Int32 × (Nat → Nat → Int32))) (h : lb_104_1   I = some r) : tt (d + 6) me_104 bk_104_1 [some (.ref 58), none, none, none, none] [] (cw κ cs I J W) (.inl (some (.int r.1))) (cw κ cs r.2 J W) :=
  let I1 := up I 58 12 ((I 58 12) + (1 : Int32))
  tt_R 8 (fun r => (.inl (some (.int r.1)))) (fun r => (cw κ cs r.2 J W)) h (fun _ => rfl)
theorem m_104 {d : Nat} {κ : Nat × Option Nat} {cs : Nat × Nat} {J : Nat → Nat → Int64} {W : Nat} {x1 : Int32} {x2 : Int32} {x3 : Int32} {x4 : Int32} {I : (Nat → Nat → Int32)} {r : (Int32 × (Nat → Nat → Int32))} (h : f_104 x1 x2 x3 x4 I = some r) : tm (d + 6) 104 [.ref 58, .int x1, .int x2, .int x3, .int x4] (cw κ cs I J W) (.inl (some (.int r.1))) (cw κ cs r.2 J W) :=
  tm_of me_104 rfl (Nat.le_of_ble_eq_true rfl) (
  tt_I (L1 := (bk_104_0.drop 5)) (L2 := bk_104_1) 5 [some (.ref 58), some (.int x1), some (.int x2), some (.int x3), some (.int x4)] [] (cw κ cs I J W) h (fun _ => rfl) (fun h =>
  tt_C (L1 := (bk_104_0.drop 12)) 7 [some (.ref 58), some (.int x1), some (.int x2), some (.int x3), some (.int x4)] [] (cw κ cs I J W) h (fun _ => rfl) (fun _ e => m_58 (d := d + 3) e) fun q2 h =>
  tt_I (L1 := bk_104_1) (L2 := bk_104_2) 1 [some (.ref 58), some (.int x1), some (.int x2), some (.int x3), some (.int x4)] [] (cw κ cs I J W) h (fun _ => rfl) (fun h =>
  tt_F [some (.ref 58), none, none, none, none] (And.intro rfl trivial) (tl_104_1   I _ h)) (fun h =>
  tt_C (L1 := (bk_104_2.drop 7)) 7 [some (.ref 58), some (.int x1), some (.int x2), some (.int x3), some (.int x4)] [.ref 87] (cw κ cs I J W) h (fun _ => rfl) (fun _ e => m_120 (d := d + 5) e) fun q3 h =>
  tt_C (L1 := (bk_104_2.drop 8)) 1 [some (.ref 58), some (.int x1), some (.int x2), some (.int x3), some (.int x4)] [] (cw κ cs I J W) h (fun _ => rfl) (fun _ e => m_62 (d := d + 4) e) fun q4 h =>
  tt_C (L1 := (bk_104_2.drop 15)) 7 [some (.ref 58), some (.int x1), some (.int x2), some (.int x3), some (.int x4)] [] (cw κ cs q4 J W) h (fun _ => rfl) (fun _ e => m_63 (d := d) e) fun q5 h =>
  tt_C (L1 := (bk_104_2.drop 20)) 5 [some (.ref 58), some (.int x1), some (.int x2), some (.int x3), some (.int x4)] [] (cw κ cs q5 J W) h (fun _ => rfl) (fun _ e => m_66 (d := d + 4) e) fun q6 h =>
  tt_C (L1 := (bk_104_2.drop 21)) 1 [some (.ref 58), some (.int x1), some (.int x2), some (.int x3), some (.int x4)] [] (cw κ cs q5 J W) h (fun _ => rfl) (fun _ e => m_210 (d := d + 5) e) fun q7 h =>
  tt_R 1 (fun r => (.inl (some (.int r.1)))) (fun r => (cw κ cs r.2 J W)) h (fun _ => rfl))) (fun h =>
  tt_F [some (.ref 58), none, none, none, none] (And.intro rfl trivial) (tl_104_1   I _ h)))
/- 64 -/
def bd_64_1 (c1 : Int32 → Int32 → (Nat → Nat → Int32) → Option (Nat → Nat → Int32)) (x3 : Int32) (x4 : Int32) (I : (Nat → Nat → Int32)) : Option (Nat → Nat → Int32) :=
  (if x4 < (I 74 4) then ((f_10 x4 I).bind fun q3 => (let I4 := putf I 88 60 x4 (atf (I 59) 60 q3)
  ((f_68 x4 x3 I4).bind fun q5 => (let I6 := putf I4 90 60 (atf (I 59) 60 q3) ((atf (I4 90) 60 (atf (I 59) 60 q3)) - q5)
  (c1 x3 (x4 + (1 : Int32)) I6))))) else (some I))
def lb_64_1 : Int32 → Int32 → (Nat → Nat → Int32) → Option (Nat → Nat → Int32) := fx (fun _ _ _ => none) (bd_64_1 ) FU
def f_64 (I : (Nat → Nat → Int32)) : Option (Nat → Nat → Int32) :=
  ((f_67 (atf (I 91) 20 ((I 87 4) - (1 : Int32))) I).bind fun q1 => (let I2 := cpyf q1 88 59 60
  (lb_64_1  (atf (I 91) 20 ((I 87 4) - (1 : Int32))) (0 : Int32) I2)))
theorem tb_64_1 {d : Nat} {κ : Nat × Option Nat} {cs : Nat × Nat} {J : Nat → Nat → Int64} {W : Nat} (c1 : Int32 → Int32 → (Nat → Nat → Int32) → Option (Nat → Nat → Int32)) (k1 : ∀ (x3 : Int32) (x4 : Int32) (I : (Nat → Nat → Int32)) (r : (Nat → Nat → Int32)), c1 x3 x4 I = some r → tt (d + 5) me_64 bk_64_1 [some (.ref 87), some (.ref 74), some (.ref 59), some (.int x3), some (.int x4), none] [] (cw κ cs I J W) (.inl none) (cw κ cs r J W)) (x3 : Int32) (x4 : Int32) (I : (Nat → Nat → Int32)) (r : (Nat → Nat → Int32)) (h : bd_64_1  c1 x3 x4 I = some r) : tt (d + 5) me_64 bk_64_1 [some (.ref 87), some (.ref 74), some (.ref 59), some (.int x3), some (.int x4), none] [] (cw κ cs I J W) (.inl none) (cw κ cs r J W) :=
  tt_I (L1 := (bk_64_1.drop 4)) (L2 := bk_64_2) 4 [some (.ref 87), some (.ref 74), some (.ref 59), some (.int x3), some (.int x4), none] [] (cw κ cs I J W) h (fun _ => rfl) (fun h =>
  tt_C (L1 := (bk_64_1.drop 8)) 4 [some (.ref 87), some (.ref 74), some (.ref 59), some (.int x3), some (.int x4), none] [.ref 59] (cw κ cs I J W) h (fun _ => rfl) (fun _ e => m_10 (d := d + 2) e) fun q3 h =>
  tt_K (L1 := (bk_64_1.drop 9)) 1 [some (.ref 87), some (.ref 74), some (.ref 59), some (.int x3), some (.int x4), none] [] (cw κ cs I J W) (fun _ => rfl) (m_at 59 60 q3 (Nat.le_of_ble_eq_true rfl) rfl)
  (let I4 := putf I 88 60 x4 (atf (I 59) 60 q3)
  tt_K (L1 := (bk_64_1.drop 15)) 6 [some (.ref 87), some (.ref 74), some (.ref 59), some (.int x3), some (.int x4), some (.int (atf (I 59) 60 q3))] [] (cw κ cs I J W) (fun _ => rfl) (m_put 88 60 x4 (atf (I 59) 60 q3) (Nat.le_of_ble_eq_true rfl) rfl (Nat.le_of_ble_eq_true rfl))
  (tt_K (L1 := (bk_64_1.drop 22)) 7 [some (.ref 87), some (.ref 74), some (.ref 59), some (.int x3), some (.int x4), some (.int (atf (I 59) 60 q3))] [.int (atf (I 59) 60 q3), .ref 90] (cw κ cs I4 J W) (fun _ => rfl) (m_at 90 60 (atf (I 59) 60 q3) (Nat.le_of_ble_eq_true rfl) rfl)
  (tt_C (L1 := (bk_64_1.drop 26)) 4 [some (.ref 87), some (.ref 74), some (.ref 59), some (.int x3), some (.int x4), some (.int (atf (I 59) 60 q3))] [.int (atf (I4 90) 60 (atf (I 59) 60 q3)), .int (atf (I 59) 60 q3), .ref 90] (cw κ cs I4 J W) h (fun _ => rfl) (fun _ e => m_68 (d := d + 2) e) fun q5 h =>
  let I6 := putf I4 90 60 (atf (I 59) 60 q3) ((atf (I4 90) 60 (atf (I 59) 60 q3)) - q5)
  tt_K (L1 := (bk_64_1.drop 28)) 2 [some (.ref 87), some (.ref 74), some (.ref 59), some (.int x3), some (.int x4), some (.int (atf (I 59) 60 q3))] [] (cw κ cs I4 J W) (fun _ => rfl) (m_put 90 60 (atf (I 59) 60 q3) ((atf (I4 90) 60 (atf (I 59) 60 q3)) - q5) (Nat.le_of_ble_eq_true rfl) rfl (Nat.le_of_ble_eq_true rfl))
  (tt_J (L1 := bk_64_1) 1 [some (.ref 87), some (.ref 74), some (.ref 59), some (.int x3), some (.int (x4 + (1 : Int32))), some (.int (atf (I 59) 60 q3))] [] (cw κ cs I6 J W) (fun _ => rfl) (tt_F [some (.ref 87), some (.ref 74), some (.ref 59), some (.int x3), some (.int (x4 + (1 : Int32))), none] (And.intro rfl (And.intro rfl (And.intro rfl (And.intro rfl (And.intro rfl trivial))))) (k1 x3 (x4 + (1 : Int32)) I6 _ h))))))) (fun h =>
  tt_R 1 (fun r => (.inl none)) (fun r => (cw κ cs r J W)) h (fun _ => rfl))
theorem tn_64_1 {d : Nat} {κ : Nat × Option Nat} {cs : Nat × Nat} {J : Nat → Nat → Int64} {W : Nat} : ∀ (n : Nat) (x3 : Int32) (x4 : Int32) (I : (Nat → Nat → Int32)) (r : (Nat → Nat → Int32)), fx (fun _ _ _ => none) (bd_64_1 ) n x3 x4 I = some r → tt (d + 5) me_64 bk_64_1 [some (.ref 87), some (.ref 74), some (.ref 59), some (.int x3), some (.int x4), none] [] (cw κ cs I J W) (.inl none) (cw κ cs r J W)
  | 0 => fun _ _ _ _ h => nomatch h
  | n + 1 => fun x3 x4 I r h => tb_64_1  (fx _ (bd_64_1 ) n) (tn_64_1  n) x3 x4 I r h
theorem tl_64_1 {d : Nat} {κ : Nat × Option Nat} {cs : Nat × Nat} {J : Nat → Nat → Int64} {W : Nat} (x3 : Int32) (x4 : Int32) (I : (Nat → Nat → Int32)) (r : (Nat → Nat → Int32)) (h : lb_64_1  x3 x4 I = some r) : tt (d + 5) me_64 bk_64_1 [some (.ref 87), some (.ref 74), some (.ref 59), some (.int x3), some (.int x4), none] [] (cw κ cs I J W) (.inl none) (cw κ cs r J W) := tn_64_1  FU x3 x4 I r h
theorem m_64 {d : Nat} {κ : Nat × Option Nat} {cs : Nat × Nat} {J : Nat → Nat → Int64} {W : Nat} {I : (Nat → Nat → Int32)} {r : (Nat → Nat → Int32)} (h : f_64  I = some r) : tm (d + 5) 64 [.ref 87, .ref 74, .ref 59] (cw κ cs I J W) (.inl none) (cw κ cs r J W) :=
  tm_of me_64 rfl (Nat.le_of_ble_eq_true rfl) (
  tt_K (L1 := (bk_64_0.drop 7)) 7 [some (.ref 87), some (.ref 74), some (.ref 59), none, none, none] [] (cw κ cs I J W) (fun _ => rfl) (m_at 91 20 ((I 87 4) - (1 : Int32)) (Nat.le_of_ble_eq_true rfl) rfl)
  (tt_C (L1 := (bk_64_0.drop 11)) 4 [some (.ref 87), some (.ref 74), some (.ref 59), some (.int (atf (I 91) 20 ((I 87 4) - (1 : Int32)))), none, none] [] (cw κ cs I J W) h (fun _ => rfl) (fun _ e => m_67 (d := d) e) fun q1 h =>
  let I2 := cpyf q1 88 59 60
  tt_K (L1 := (bk_64_0.drop 15)) 4 [some (.ref 87), some (.ref 74), some (.ref 59), some (.int (atf (I 91) 20 ((I 87 4) - (1 : Int32)))), none, none] [] (cw κ cs q1 J W) (fun _ => rfl) (m_copy 88 60 59 60 (Nat.le_of_ble_eq_true rfl) (Nat.le_of_ble_eq_true rfl) rfl rfl (Nat.le_of_ble_eq_true rfl))
  (tt_J (L1 := bk_64_1) 1 [some (.ref 87), some (.ref 74), some (.ref 59), some (.int (atf (I 91) 20 ((I 87 4) - (1 : Int32)))), some (.int (0 : Int32)), none] [] (cw κ cs I2 J W) (fun _ => rfl) (tt_F [some (.ref 87), some (.ref 74), some (.ref 59), some (.int (atf (I 91) 20 ((I 87 4) - (1 : Int32)))), some (.int (0 : Int32)), none] (And.intro rfl (And.intro rfl (And.intro rfl (And.intro rfl (And.intro rfl trivial))))) (tl_64_1  (atf (I 91) 20 ((I 87 4) - (1 : Int32))) (0 : Int32) I2 _ h)))))
/- 105 -/
def f_105 (I : (Nat → Nat → Int32)) : Option (Int32 × (Nat → Nat → Int32)) :=
  (if 0 < (I 87 4) then ((f_64  I).bind fun q1 => (let I2 := up q1 87 4 ((q1 87 4) - (1 : Int32))
  (some ((I2 87 4), I2)))) else (some (((-1) : Int32), I)))
theorem m_105 {d : Nat} {κ : Nat × Option Nat} {cs : Nat × Nat} {J : Nat → Nat → Int64} {W : Nat} {I : (Nat → Nat → Int32)} {r : (Int32 × (Nat → Nat → Int32))} (h : f_105  I = some r) : tm (d + 6) 105 [.ref 58] (cw κ cs I J W) (.inl (some (.int r.1))) (cw κ cs r.2 J W) :=
  tm_of me_105 rfl (Nat.le_of_ble_eq_true rfl) (
  tt_I (L1 := bk_105_1) (L2 := (bk_105_0.drop 4)) 4 [some (.ref 58)] [] (cw κ cs I J W) h (fun _ => rfl) (fun h =>
  tt_C (L1 := (bk_105_1.drop 7)) 7 [some (.ref 58)] [] (cw κ cs I J W) h (fun _ => rfl) (fun _ e => m_64 (d := d) e) fun q1 h =>
  let I2 := up q1 87 4 ((q1 87 4) - (1 : Int32))
  tt_R 11 (fun r => (.inl (some (.int r.1)))) (fun r => (cw κ cs r.2 J W)) h (fun _ => rfl)) (fun h =>
  tt_R 2 (fun r => (.inl (some (.int r.1)))) (fun r => (cw κ cs r.2 J W)) h (fun _ => rfl)))
/- 106 -/
def f_106 (x1 : Int32) (I : (Nat → Nat → Int32)) : Option (Int32 ⊕ Nat) :=
  ((f_56 x1 I).bind fun q1 => (if q1 = 0 then (some (.inr 1)) else (some (.inl (atf (I 90) 60 x1)))))
theorem m_106 {d : Nat} {κ : Nat × Option Nat} {cs : Nat × Nat} {J : Nat → Nat → Int64} {W : Nat} {x1 : Int32} {I : (Nat → Nat → Int32)} {r : (Int32 ⊕ Nat)} (h : f_106 x1 I = some r) : tm (d + 2) 106 [.ref 58, .int x1] (cw κ cs I J W) (xi r) (cw κ (xc cs r) I J W) :=
  tm_of me_106 rfl (Nat.le_of_ble_eq_true rfl) (
  tt_C (L1 := (bk_106_0.drop 4)) 4 [some (.ref 58), some (.int x1)] [] (cw κ cs I J W) h (fun _ => rfl) (fun _ e => m_56 (d := d) e) fun q1 h =>
  tt_I (L1 := (bk_106_0.drop 5)) (L2 := bk_106_1) 1 [some (.ref 58), some (.int x1)] [] (cw κ cs I J W) h (fun _ => rfl) (fun h =>
  tt_R 1 (fun r => (xi r)) (fun r => (cw κ (xc cs r) I J W)) h (fun _ => rfl)) (fun h =>
  tt_K (L1 := (bk_106_1.drop 5)) 5 [some (.ref 58), some (.int x1)] [] (cw κ cs I J W) (fun _ => rfl) (m_at 90 60 x1 (Nat.le_of_ble_eq_true rfl) rfl)
  (tt_R 1 (fun r => (xi r)) (fun r => (cw κ (xc cs r) I J W)) h (fun _ => rfl))))
/- 107 -/
def f_107 (I : (Nat → Nat → Int32)) : Option Int64 :=
  ((f_66  I).bind fun q1 => (some q1))
theorem m_107 {d : Nat} {κ : Nat × Option Nat} {cs : Nat × Nat} {J : Nat → Nat → Int64} {W : Nat} {I : (Nat → Nat → Int32)} {r : Int64} (h : f_107  I = some r) : tm (d + 2) 107 [.ref 58] (cw κ cs I J W) (.inl (some (.long r))) (cw κ cs I J W) :=
  tm_of me_107 rfl (Nat.le_of_ble_eq_true rfl) (
  tt_C (L1 := (bk_107_0.drop 5)) 5 [some (.ref 58)] [] (cw κ cs I J W) h (fun _ => rfl) (fun _ e => m_66 (d := d) e) fun q1 h =>
  tt_R 1 (fun r => (.inl (some (.long r)))) (fun r => (cw κ cs I J W)) h (fun _ => rfl))
/- 108 -/
def f_108 (I : (Nat → Nat → Int32)) : Option (Nat → Nat → Int32) :=
  (let I1 := cpyf I 88 89 60
  (some I1))
theorem m_108 {d : Nat} {κ : Nat × Option Nat} {cs : Nat × Nat} {J : Nat → Nat → Int64} {W : Nat} {I : (Nat → Nat → Int32)} {r : (Nat → Nat → Int32)} (h : f_108  I = some r) : tm (d + 2) 108 [.ref 58] (cw κ cs I J W) (.inl none) (cw κ cs r J W) :=
  tm_of me_108 rfl (Nat.le_of_ble_eq_true rfl) (
  let I1 := cpyf I 88 89 60
  tt_K (L1 := (bk_108_0.drop 7)) 7 [some (.ref 58)] [] (cw κ cs I J W) (fun _ => rfl) (m_copy 88 60 89 60 (Nat.le_of_ble_eq_true rfl) (Nat.le_of_ble_eq_true rfl) rfl rfl (Nat.le_of_ble_eq_true rfl))
  (tt_R 1 (fun r => (.inl none)) (fun r => (cw κ cs r J W)) h (fun _ => rfl)))
/- 119 -/
def f_119 (x1 : Int32) (I : (Nat → Nat → Int32)) : Option Int32 :=
  ((f_121 x1 (3 : Int32) ).bind fun q1 => ((f_121 x1 (2 : Int32) ).bind fun q2 => ((f_121 x1 (1 : Int32) ).bind fun q3 => ((f_121 x1 (0 : Int32) ).bind fun q4 => ((f_58 q1 q2 q3 q4 I).bind fun q5 => (if (q5 = 0 ∨ q5 = 1) then some q5 else none))))))
theorem m_119 {d : Nat} {κ : Nat × Option Nat} {cs : Nat × Nat} {J : Nat → Nat → Int64} {W : Nat} {x1 : Int32} {I : (Nat → Nat → Int32)} {r : Int32} (h : f_119 x1 I = some r) : tm (d + 3) 119 [.ref 58, .int x1] (cw κ cs I J W) (.inl (some (.int r))) (cw κ cs I J W) :=
  tm_of me_119 rfl (Nat.le_of_ble_eq_true rfl) (
  tt_C (L1 := (bk_119_0.drop 5)) 5 [some (.ref 58), some (.int x1)] [.ref 79] (cw κ cs I J W) h (fun _ => rfl) (fun _ e => m_121 (d := d + 2) e) fun q1 h =>
  tt_C (L1 := (bk_119_0.drop 8)) 3 [some (.ref 58), some (.int x1)] [.int q1, .ref 79] (cw κ cs I J W) h (fun _ => rfl) (fun _ e => m_121 (d := d + 2) e) fun q2 h =>
  tt_C (L1 := (bk_119_0.drop 11)) 3 [some (.ref 58), some (.int x1)] [.int q2, .int q1, .ref 79] (cw κ cs I J W) h (fun _ => rfl) (fun _ e => m_121 (d := d + 2) e) fun q3 h =>
  tt_C (L1 := (bk_119_0.drop 14)) 3 [some (.ref 58), some (.int x1)] [.int q3, .int q2, .int q1, .ref 79] (cw κ cs I J W) h (fun _ => rfl) (fun _ e => m_121 (d := d + 2) e) fun q4 h =>
  tt_C (L1 := (bk_119_0.drop 15)) 1 [some (.ref 58), some (.int x1)] [] (cw κ cs I J W) h (fun _ => rfl) (fun _ e => m_58 (d := d) e) fun q5 h =>
  tt_B 1 (fun r => (.inl (some (.int r)))) (fun r => (cw κ cs I J W)) h (fun q => Or.inr (Or.inl ⟨rfl, q⟩)) (fun _ => rfl))
/- 65 -/
def bd_65_1 (c1 : Int32 → (Nat → Nat → Int32) → Option (Int32 × (Nat → Nat → Int32))) (x3 : Int32) (I : (Nat → Nat → Int32)) : Option (Int32 × (Nat → Nat → Int32)) :=
  (if x3 < (I 74 4) then ((f_10 x3 I).bind fun q2 => (if (atf (I 88) 60 q2) = (atf (I 89) 60 x3) then (c1 (x3 + (1 : Int32)) I) else (some ((0 : Int32), I)))) else (some ((1 : Int32), I)))
def lb_65_1 : Int32 → (Nat → Nat → Int32) → Option (Int32 × (Nat → Nat → Int32)) := fx (fun _ _ => none) (bd_65_1 ) FU
def f_65 (x1 : Int32) (I : (Nat → Nat → Int32)) : Option (Int32 × (Nat → Nat → Int32)) :=
  ((f_67 x1 I).bind fun q1 => (lb_65_1  (0 : Int32) q1))
theorem tb_65_1 {d : Nat} {κ : Nat × Option Nat} {cs : Nat × Nat} {J : Nat → Nat → Int64} {W : Nat} (c1 : Int32 → (Nat → Nat → Int32) → Option (Int32 × (Nat → Nat → Int32))) (k1 : ∀ (x3 : Int32) (I : (Nat → Nat → Int32)) (r : (Int32 × (Nat → Nat → Int32))), c1 x3 I = some r → tt (d + 5) me_65 bk_65_1 [some (.ref 87), none, some (.ref 74), some (.int x3)] [] (cw κ cs I J W) (.inl (some (.int r.1))) (cw κ cs r.2 J W)) (x3 : Int32) (I : (Nat → Nat → Int32)) (r : (Int32 × (Nat → Nat → Int32))) (h : bd_65_1  c1 x3 I = some r) : tt (d + 5) me_65 bk_65_1 [some (.ref 87), none, some (.ref 74), some (.int x3)] [] (cw κ cs I J W) (.inl (some (.int r.1))) (cw κ cs r.2 J W) :=
  tt_I (L1 := (bk_65_1.drop 4)) (L2 := bk_65_3) 4 [some (.ref 87), none, some (.ref 74), some (.int x3)] [] (cw κ cs I J W) h (fun _ => rfl) (fun h =>
  tt_C (L1 := (bk_65_1.drop 9)) 5 [some (.ref 87), none, some (.ref 74), some (.int x3)] [.ref 88] (cw κ cs I J W) h (fun _ => rfl) (fun _ e => m_10 (d := d + 2) e) fun q2 h =>
  tt_K (L1 := (bk_65_1.drop 10)) 1 [some (.ref 87), none, some (.ref 74), some (.int x3)] [] (cw κ cs I J W) (fun _ => rfl) (m_at 88 60 q2 (Nat.le_of_ble_eq_true rfl) rfl)
  (tt_K (L1 := (bk_65_1.drop 14)) 4 [some (.ref 87), none, some (.ref 74), some (.int x3)] [.int (atf (I 88) 60 q2)] (cw κ cs I J W) (fun _ => rfl) (m_at 89 60 x3 (Nat.le_of_ble_eq_true rfl) rfl)
  (tt_I (L1 := bk_65_2) (L2 := (bk_65_1.drop 15)) 1 [some (.ref 87), none, some (.ref 74), some (.int x3)] [] (cw κ cs I J W) h (fun _ => rfl) (fun h =>
  tt_J (L1 := bk_65_1) 1 [some (.ref 87), none, some (.ref 74), some (.int (x3 + (1 : Int32)))] [] (cw κ cs I J W) (fun _ => rfl) (tt_F [some (.ref 87), none, some (.ref 74), some (.int (x3 + (1 : Int32)))] (And.intro rfl (And.intro rfl (And.intro rfl trivial))) (k1 (x3 + (1 : Int32)) I _ h))) (fun h =>
  tt_R 2 (fun r => (.inl (some (.int r.1)))) (fun r => (cw κ cs r.2 J W)) h (fun _ => rfl))))) (fun h =>
  tt_R 2 (fun r => (.inl (some (.int r.1)))) (fun r => (cw κ cs r.2 J W)) h (fun _ => rfl))
theorem tn_65_1 {d : Nat} {κ : Nat × Option Nat} {cs : Nat × Nat} {J : Nat → Nat → Int64} {W : Nat} : ∀ (n : Nat) (x3 : Int32) (I : (Nat → Nat → Int32)) (r : (Int32 × (Nat → Nat → Int32))), fx (fun _ _ => none) (bd_65_1 ) n x3 I = some r → tt (d + 5) me_65 bk_65_1 [some (.ref 87), none, some (.ref 74), some (.int x3)] [] (cw κ cs I J W) (.inl (some (.int r.1))) (cw κ cs r.2 J W)
  | 0 => fun _ _ _ h => nomatch h
  | n + 1 => fun x3 I r h => tb_65_1  (fx _ (bd_65_1 ) n) (tn_65_1  n) x3 I r h
theorem tl_65_1 {d : Nat} {κ : Nat × Option Nat} {cs : Nat × Nat} {J : Nat → Nat → Int64} {W : Nat} (x3 : Int32) (I : (Nat → Nat → Int32)) (r : (Int32 × (Nat → Nat → Int32))) (h : lb_65_1  x3 I = some r) : tt (d + 5) me_65 bk_65_1 [some (.ref 87), none, some (.ref 74), some (.int x3)] [] (cw κ cs I J W) (.inl (some (.int r.1))) (cw κ cs r.2 J W) := tn_65_1  FU x3 I r h
theorem m_65 {d : Nat} {κ : Nat × Option Nat} {cs : Nat × Nat} {J : Nat → Nat → Int64} {W : Nat} {x1 : Int32} {I : (Nat → Nat → Int32)} {r : (Int32 × (Nat → Nat → Int32))} (h : f_65 x1 I = some r) : tm (d + 5) 65 [.ref 87, .int x1, .ref 74] (cw κ cs I J W) (.inl (some (.int r.1))) (cw κ cs r.2 J W) :=
  tm_of me_65 rfl (Nat.le_of_ble_eq_true rfl) (
  tt_C (L1 := (bk_65_0.drop 3)) 3 [some (.ref 87), some (.int x1), some (.ref 74), none] [] (cw κ cs I J W) h (fun _ => rfl) (fun _ e => m_67 (d := d) e) fun q1 h =>
  tt_J (L1 := bk_65_1) 1 [some (.ref 87), some (.int x1), some (.ref 74), some (.int (0 : Int32))] [] (cw κ cs q1 J W) (fun _ => rfl) (tt_F [some (.ref 87), none, some (.ref 74), some (.int (0 : Int32))] (And.intro rfl (And.intro rfl (And.intro rfl trivial))) (tl_65_1  (0 : Int32) q1 _ h)))
/- 109 -/
def lb_109_8 (s0 : Int32) (I : (Nat → Nat → Int32)) : Option ((Int32 ⊕ Nat) × (Nat → Nat → Int32)) :=
  (some ((.inl s0), I))
def lb_109_5 (c2 : Int32 → Int32 → Int32 → Int32 → (Nat → Nat → Int32) → Option ((Int32 ⊕ Nat) × (Nat → Nat → Int32))) (x1 : Int32) (x2 : Int32) (x3 : Int32) (x4 : Int32) (I : (Nat → Nat → Int32)) : Option ((Int32 ⊕ Nat) × (Nat → Nat → Int32)) :=
  (c2 x1 x2 x3 (x4 + (1 : Int32)) I)
def lb_109_4 (c2 : Int32 → Int32 → Int32 → Int32 → (Nat → Nat → Int32) → Option ((Int32 ⊕ Nat) × (Nat → Nat → Int32))) (x1 : Int32) (x2 : Int32) (x4 : Int32) (s0 : Int32) (I : (Nat → Nat → Int32)) : Option ((Int32 ⊕ Nat) × (Nat → Nat → Int32)) :=
  (lb_109_5 c2 x1 x2 s0 x4 I)
def bd_109_2 (c2 : Int32 → Int32 → Int32 → Int32 → (Nat → Nat → Int32) → Option ((Int32 ⊕ Nat) × (Nat → Nat → Int32))) (x1 : Int32) (x2 : Int32) (x3 : Int32) (x4 : Int32) (I : (Nat → Nat → Int32)) : Option ((Int32 ⊕ Nat) × (Nat → Nat → Int32)) :=
  (if x4 < (648 : Int32) then ((f_119 x4 I).bind fun q1 => (if q1 = 0 then (lb_109_5 c2 x1 x2 x3 x4 I) else ((f_65 x4 I).bind fun q2 => (if q2.1 = 0 then (lb_109_5 c2 x1 x2 x3 x4 q2.2) else (if x3 = ((-1) : Int32) then (lb_109_4 c2 x1 (x2 + (1 : Int32)) x4 x4 q2.2) else (lb_109_4 c2 x1 (x2 + (1 : Int32)) x4 x3 q2.2)))))) else (if x1 = 0 then (lb_109_8  x2 I) else (lb_109_8  x3 I)))
def lb_109_2 : Int32 → Int32 → Int32 → Int32 → (Nat → Nat → Int32) → Option ((Int32 ⊕ Nat) × (Nat → Nat → Int32)) := fx (fun _ _ _ _ _ => none) (bd_109_2 ) FU
def lb_109_1 (x1 : Int32) (I : (Nat → Nat → Int32)) : Option ((Int32 ⊕ Nat) × (Nat → Nat → Int32)) :=
  (lb_109_2  x1 (0 : Int32) ((-1) : Int32) (0 : Int32) I)
def f_109 (x1 : Int32) (I : (Nat → Nat → Int32)) : Option ((Int32 ⊕ Nat) × (Nat → Nat → Int32)) :=
  (if x1 = 0 then (lb_109_1  x1 I) else (if x1 = (1 : Int32) then (lb_109_1  x1 I) else (some ((.inr 1), I))))
theorem tl_109_8 {d : Nat} {κ : Nat × Option Nat} {cs : Nat × Nat} {J : Nat → Nat → Int64} {W : Nat} (s0 : Int32) (I : (Nat → Nat → Int32)) (r : ((Int32 ⊕ Nat) × (Nat → Nat → Int32))) (h : lb_109_8  s0 I = some r) : tt (d + 6) me_109 bk_109_8 [none, none, none, none, none] [.int s0] (cw κ cs I J W) (xi r.1) (cw κ (xc cs r.1) r.2 J W) :=
  tt_R 1 (fun r => (xi r.1)) (fun r => (cw κ (xc cs r.1) r.2 J W)) h (fun _ => rfl)
theorem tl_109_5 {d : Nat} {κ : Nat × Option Nat} {cs : Nat × Nat} {J : Nat → Nat → Int64} {W : Nat} (c2 : Int32 → Int32 → Int32 → Int32 → (Nat → Nat → Int32) → Option ((Int32 ⊕ Nat) × (Nat → Nat → Int32))) (k2 : ∀ (x1 : Int32) (x2 : Int32) (x3 : Int32) (x4 : Int32) (I : (Nat → Nat → Int32)) (r : ((Int32 ⊕ Nat) × (Nat → Nat → Int32))), c2 x1 x2 x3 x4 I = some r → tt (d + 6) me_109 bk_109_2 [some (.ref 58), some (.int x1), some (.int x2), some (.int x3), some (.int x4)] [] (cw κ cs I J W) (xi r.1) (cw κ (xc cs r.1) r.2 J W)) (x1 : Int32) (x2 : Int32) (x3 : Int32) (x4 : Int32) (I : (Nat → Nat → Int32)) (r : ((Int32 ⊕ Nat) × (Nat → Nat → Int32))) (h : lb_109_5 c2 x1 x2 x3 x4 I = some r) : tt (d + 6) me_109 bk_109_5 [some (.ref 58), some (.int x1), some (.int x2), some (.int x3), some (.int x4)] [] (cw κ cs I J W) (xi r.1) (cw κ (xc cs r.1) r.2 J W) :=
  tt_J (L1 := bk_109_2) 1 [some (.ref 58), some (.int x1), some (.int x2), some (.int x3), some (.int (x4 + (1 : Int32)))] [] (cw κ cs I J W) (fun _ => rfl) (tt_F [some (.ref 58), some (.int x1), some (.int x2), some (.int x3), some (.int (x4 + (1 : Int32)))] (And.intro rfl (And.intro rfl (And.intro rfl (And.intro rfl (And.intro rfl trivial))))) (k2 x1 x2 x3 (x4 + (1 : Int32)) I _ h))
theorem tl_109_4 {d : Nat} {κ : Nat × Option Nat} {cs : Nat × Nat} {J : Nat → Nat → Int64} {W : Nat} (c2 : Int32 → Int32 → Int32 → Int32 → (Nat → Nat → Int32) → Option ((Int32 ⊕ Nat) × (Nat → Nat → Int32))) (k2 : ∀ (x1 : Int32) (x2 : Int32) (x3 : Int32) (x4 : Int32) (I : (Nat → Nat → Int32)) (r : ((Int32 ⊕ Nat) × (Nat → Nat → Int32))), c2 x1 x2 x3 x4 I = some r → tt (d + 6) me_109 bk_109_2 [some (.ref 58), some (.int x1), some (.int x2), some (.int x3), some (.int x4)] [] (cw κ cs I J W) (xi r.1) (cw κ (xc cs r.1) r.2 J W)) (x1 : Int32) (x2 : Int32) (x4 : Int32) (s0 : Int32) (I : (Nat → Nat → Int32)) (r : ((Int32 ⊕ Nat) × (Nat → Nat → Int32))) (h : lb_109_4 c2 x1 x2 x4 s0 I = some r) : tt (d + 6) me_109 bk_109_4 [some (.ref 58), some (.int x1), some (.int x2), none, some (.int x4)] [.int s0] (cw κ cs I J W) (xi r.1) (cw κ (xc cs r.1) r.2 J W) :=
  tt_J (L1 := bk_109_5) 0 [some (.ref 58), some (.int x1), some (.int x2), some (.int s0), some (.int x4)] [] (cw κ cs I J W) (fun _ => rfl) (tt_F [some (.ref 58), some (.int x1), some (.int x2), some (.int s0), some (.int x4)] (And.intro rfl (And.intro rfl (And.intro rfl (And.intro rfl (And.intro rfl trivial))))) (tl_109_5 c2 k2 x1 x2 s0 x4 I _ h))
theorem tb_109_2 {d : Nat} {κ : Nat × Option Nat} {cs : Nat × Nat} {J : Nat → Nat → Int64} {W : Nat} (c2 : Int32 → Int32 → Int32 → Int32 → (Nat → Nat → Int32) → Option ((Int32 ⊕ Nat) × (Nat → Nat → Int32))) (k2 : ∀ (x1 : Int32) (x2 : Int32) (x3 : Int32) (x4 : Int32) (I : (Nat → Nat → Int32)) (r : ((Int32 ⊕ Nat) × (Nat → Nat → Int32))), c2 x1 x2 x3 x4 I = some r → tt (d + 6) me_109 bk_109_2 [some (.ref 58), some (.int x1), some (.int x2), some (.int x3), some (.int x4)] [] (cw κ cs I J W) (xi r.1) (cw κ (xc cs r.1) r.2 J W)) (x1 : Int32) (x2 : Int32) (x3 : Int32) (x4 : Int32) (I : (Nat → Nat → Int32)) (r : ((Int32 ⊕ Nat) × (Nat → Nat → Int32))) (h : bd_109_2  c2 x1 x2 x3 x4 I = some r) : tt (d + 6) me_109 bk_109_2 [some (.ref 58), some (.int x1), some (.int x2), some (.int x3), some (.int x4)] [] (cw κ cs I J W) (xi r.1) (cw κ (xc cs r.1) r.2 J W) :=
  tt_I (L1 := (bk_109_2.drop 3)) (L2 := bk_109_6) 3 [some (.ref 58), some (.int x1), some (.int x2), some (.int x3), some (.int x4)] [] (cw κ cs I J W) h (fun _ => rfl) (fun h =>
  tt_C (L1 := (bk_109_2.drop 6)) 3 [some (.ref 58), some (.int x1), some (.int x2), some (.int x3), some (.int x4)] [] (cw κ cs I J W) h (fun _ => rfl) (fun _ e => m_119 (d := d + 2) e) fun q1 h =>
  tt_I (L1 := bk_109_5) (L2 := (bk_109_2.drop 7)) 1 [some (.ref 58), some (.int x1), some (.int x2), some (.int x3), some (.int x4)] [] (cw κ cs I J W) h (fun _ => rfl) (fun h =>
  tt_F [some (.ref 58), some (.int x1), some (.int x2), some (.int x3), some (.int x4)] (And.intro rfl (And.intro rfl (And.intro rfl (And.intro rfl (And.intro rfl trivial))))) (tl_109_5 c2 k2 x1 x2 x3 x4 I _ h)) (fun h =>
  tt_C (L1 := (bk_109_2.drop 13)) 6 [some (.ref 58), some (.int x1), some (.int x2), some (.int x3), some (.int x4)] [] (cw κ cs I J W) h (fun _ => rfl) (fun _ e => m_65 (d := d) e) fun q2 h =>
  tt_I (L1 := bk_109_5) (L2 := (bk_109_2.drop 14)) 1 [some (.ref 58), some (.int x1), some (.int x2), some (.int x3), some (.int x4)] [] (cw κ cs q2.2 J W) h (fun _ => rfl) (fun h =>
  tt_F [some (.ref 58), some (.int x1), some (.int x2), some (.int x3), some (.int x4)] (And.intro rfl (And.intro rfl (And.intro rfl (And.intro rfl (And.intro rfl trivial))))) (tl_109_5 c2 k2 x1 x2 x3 x4 q2.2 _ h)) (fun h =>
  tt_I (L1 := (bk_109_2.drop 18)) (L2 := bk_109_3) 4 [some (.ref 58), some (.int x1), some (.int (x2 + (1 : Int32))), some (.int x3), some (.int x4)] [] (cw κ cs q2.2 J W) h (fun _ => rfl) (fun h =>
  tt_J (L1 := bk_109_4) 1 [some (.ref 58), some (.int x1), some (.int (x2 + (1 : Int32))), some (.int x3), some (.int x4)] [.int x4] (cw κ cs q2.2 J W) (fun _ => rfl) (tt_F [some (.ref 58), some (.int x1), some (.int (x2 + (1 : Int32))), none, some (.int x4)] (And.intro rfl (And.intro rfl (And.intro rfl (And.intro rfl trivial)))) (tl_109_4 c2 k2 x1 (x2 + (1 : Int32)) x4 x4 q2.2 _ h))) (fun h =>
  tt_J (L1 := bk_109_4) 0 [some (.ref 58), some (.int x1), some (.int (x2 + (1 : Int32))), some (.int x3), some (.int x4)] [.int x3] (cw κ cs q2.2 J W) (fun _ => rfl) (tt_F [some (.ref 58), some (.int x1), some (.int (x2 + (1 : Int32))), none, some (.int x4)] (And.intro rfl (And.intro rfl (And.intro rfl (And.intro rfl trivial)))) (tl_109_4 c2 k2 x1 (x2 + (1 : Int32)) x4 x3 q2.2 _ h)))))) (fun h =>
  tt_I (L1 := (bk_109_6.drop 2)) (L2 := bk_109_7) 2 [some (.ref 58), some (.int x1), some (.int x2), some (.int x3), some (.int x4)] [] (cw κ cs I J W) h (fun _ => rfl) (fun h =>
  tt_J (L1 := bk_109_8) 1 [some (.ref 58), some (.int x1), some (.int x2), some (.int x3), some (.int x4)] [.int x2] (cw κ cs I J W) (fun _ => rfl) (tt_F [none, none, none, none, none] trivial (tl_109_8  x2 I _ h))) (fun h =>
  tt_J (L1 := bk_109_8) 0 [some (.ref 58), some (.int x1), some (.int x2), some (.int x3), some (.int x4)] [.int x3] (cw κ cs I J W) (fun _ => rfl) (tt_F [none, none, none, none, none] trivial (tl_109_8  x3 I _ h))))
theorem tn_109_2 {d : Nat} {κ : Nat × Option Nat} {cs : Nat × Nat} {J : Nat → Nat → Int64} {W : Nat} : ∀ (n : Nat) (x1 : Int32) (x2 : Int32) (x3 : Int32) (x4 : Int32) (I : (Nat → Nat → Int32)) (r : ((Int32 ⊕ Nat) × (Nat → Nat → Int32))), fx (fun _ _ _ _ _ => none) (bd_109_2 ) n x1 x2 x3 x4 I = some r → tt (d + 6) me_109 bk_109_2 [some (.ref 58), some (.int x1), some (.int x2), some (.int x3), some (.int x4)] [] (cw κ cs I J W) (xi r.1) (cw κ (xc cs r.1) r.2 J W)
  | 0 => fun _ _ _ _ _ _ h => nomatch h
  | n + 1 => fun x1 x2 x3 x4 I r h => tb_109_2  (fx _ (bd_109_2 ) n) (tn_109_2  n) x1 x2 x3 x4 I r h
theorem tl_109_2 {d : Nat} {κ : Nat × Option Nat} {cs : Nat × Nat} {J : Nat → Nat → Int64} {W : Nat} (x1 : Int32) (x2 : Int32) (x3 : Int32) (x4 : Int32) (I : (Nat → Nat → Int32)) (r : ((Int32 ⊕ Nat) × (Nat → Nat → Int32))) (h : lb_109_2  x1 x2 x3 x4 I = some r) : tt (d + 6) me_109 bk_109_2 [some (.ref 58), some (.int x1), some (.int x2), some (.int x3), some (.int x4)] [] (cw κ cs I J W) (xi r.1) (cw κ (xc cs r.1) r.2 J W) := tn_109_2  FU x1 x2 x3 x4 I r h
theorem tl_109_1 {d : Nat} {κ : Nat × Option Nat} {cs : Nat × Nat} {J : Nat → Nat → Int64} {W : Nat} (x1 : Int32) (I : (Nat → Nat → Int32)) (r : ((Int32 ⊕ Nat) × (Nat → Nat → Int32))) (h : lb_109_1  x1 I = some r) : tt (d + 6) me_109 bk_109_1 [some (.ref 58), some (.int x1), none, none, none] [] (cw κ cs I J W) (xi r.1) (cw κ (xc cs r.1) r.2 J W) :=
  tt_J (L1 := bk_109_2) 5 [some (.ref 58), some (.int x1), some (.int (0 : Int32)), some (.int ((-1) : Int32)), some (.int (0 : Int32))] [] (cw κ cs I J W) (fun _ => rfl) (tt_F [some (.ref 58), some (.int x1), some (.int (0 : Int32)), some (.int ((-1) : Int32)), some (.int (0 : Int32))] (And.intro rfl (And.intro rfl (And.intro rfl (And.intro rfl (And.intro rfl trivial))))) (tl_109_2  x1 (0 : Int32) ((-1) : Int32) (0 : Int32) I _ h))
theorem m_109 {d : Nat} {κ : Nat × Option Nat} {cs : Nat × Nat} {J : Nat → Nat → Int64} {W : Nat} {x1 : Int32} {I : (Nat → Nat → Int32)} {r : ((Int32 ⊕ Nat) × (Nat → Nat → Int32))} (h : f_109 x1 I = some r) : tm (d + 6) 109 [.ref 58, .int x1] (cw κ cs I J W) (xi r.1) (cw κ (xc cs r.1) r.2 J W) :=
  tm_of me_109 rfl (Nat.le_of_ble_eq_true rfl) (
  tt_I (L1 := bk_109_1) (L2 := (bk_109_0.drop 2)) 2 [some (.ref 58), some (.int x1), none, none, none] [] (cw κ cs I J W) h (fun _ => rfl) (fun h =>
  tt_F [some (.ref 58), some (.int x1), none, none, none] (And.intro rfl (And.intro rfl trivial)) (tl_109_1  x1 I _ h)) (fun h =>
  tt_I (L1 := bk_109_1) (L2 := (bk_109_0.drop 5)) 3 [some (.ref 58), some (.int x1), none, none, none] [] (cw κ cs I J W) h (fun _ => rfl) (fun h =>
  tt_F [some (.ref 58), some (.int x1), none, none, none] (And.intro rfl (And.intro rfl trivial)) (tl_109_1  x1 I _ h)) (fun h =>
  tt_R 1 (fun r => (xi r.1)) (fun r => (cw κ (xc cs r.1) r.2 J W)) h (fun _ => rfl))))
/- 110 -/
def lb_110_1 (I : (Nat → Nat → Int32)) : Option (Int32 ⊕ Nat) :=
  (some (.inr 0))
def lb_110_4 (c3 : Int32 → Int32 → Int32 → Int32 → Int32 → (Nat → Nat → Int32) → Option (Int32 ⊕ Nat)) (x2 : Int32) (x3 : Int32) (x4 : Int32) (x5 : Int32) (x6 : Int32) (I : (Nat → Nat → Int32)) : Option (Int32 ⊕ Nat) :=
  (c3 x2 x3 x4 x5 (x6 + (1 : Int32)) I)
def bd_110_3 (c3 : Int32 → Int32 → Int32 → Int32 → Int32 → (Nat → Nat → Int32) → Option (Int32 ⊕ Nat)) (x2 : Int32) (x3 : Int32) (x4 : Int32) (x5 : Int32) (x6 : Int32) (I : (Nat → Nat → Int32)) : Option (Int32 ⊕ Nat) :=
  (if x6 < x2 then ((f_125 (((((x4 * (1103515245 : Int32)) + (12345 : Int32))).toUInt32 >>> (((16 : Int32)).toUInt32 &&& Int32.toUInt32 31)).toInt32 &&& (32767 : Int32)) (I 79 4) ).bind fun q3 => ((f_55 q3 x3 I).bind fun q4 => (if q4 = (I 79 7) then (lb_110_4 c3 x2 x3 ((x4 * (1103515245 : Int32)) + (12345 : Int32)) (x5 + (1 : Int32)) x6 I) else (lb_110_4 c3 x2 x3 ((x4 * (1103515245 : Int32)) + (12345 : Int32)) x5 x6 I)))) else (some (.inl x5)))
def lb_110_3 : Int32 → Int32 → Int32 → Int32 → Int32 → (Nat → Nat → Int32) → Option (Int32 ⊕ Nat) := fx (fun _ _ _ _ _ _ => none) (bd_110_3 ) FU
def f_110 (x1 : Int32) (x2 : Int32) (x3 : Int32) (I : (Nat → Nat → Int32)) : Option (Int32 ⊕ Nat) :=
  ((f_122 x2 (0 : Int32) (60 : Int32) ).bind fun q1 => (if q1 = 0 then (lb_110_1   I) else ((f_122 x3 (0 : Int32) (60 : Int32) ).bind fun q2 => (if q2 = 0 then (lb_110_1   I) else (lb_110_3  x2 x3 x1 (0 : Int32) (0 : Int32) I)))))
theorem tl_110_1 {d : Nat} {κ : Nat × Option Nat} {cs : Nat × Nat} {J : Nat → Nat → Int64} {W : Nat} (I : (Nat → Nat → Int32)) (r : (Int32 ⊕ Nat)) (h : lb_110_1   I = some r) : tt (d + 4) me_110 bk_110_1 [none, none, none, none, none, none, none, none] [] (cw κ cs I J W) (xi r) (cw κ (xc cs r) I J W) :=
  tt_R 1 (fun r => (xi r)) (fun r => (cw κ (xc cs r) I J W)) h (fun _ => rfl)
theorem tl_110_4 {d : Nat} {κ : Nat × Option Nat} {cs : Nat × Nat} {J : Nat → Nat → Int64} {W : Nat} (c3 : Int32 → Int32 → Int32 → Int32 → Int32 → (Nat → Nat → Int32) → Option (Int32 ⊕ Nat)) (k3 : ∀ (x2 : Int32) (x3 : Int32) (x4 : Int32) (x5 : Int32) (x6 : Int32) (I : (Nat → Nat → Int32)) (r : (Int32 ⊕ Nat)), c3 x2 x3 x4 x5 x6 I = some r → tt (d + 4) me_110 bk_110_3 [some (.ref 58), none, some (.int x2), some (.int x3), some (.int x4), some (.int x5), some (.int x6), none] [] (cw κ cs I J W) (xi r) (cw κ (xc cs r) I J W)) (x2 : Int32) (x3 : Int32) (x4 : Int32) (x5 : Int32) (x6 : Int32) (I : (Nat → Nat → Int32)) (r : (Int32 ⊕ Nat)) (h : lb_110_4 c3 x2 x3 x4 x5 x6 I = some r) : tt (d + 4) me_110 bk_110_4 [some (.ref 58), none, some (.int x2), some (.int x3), some (.int x4), some (.int x5), some (.int x6), none] [] (cw κ cs I J W) (xi r) (cw κ (xc cs r) I J W) :=
  tt_J (L1 := bk_110_3) 1 [some (.ref 58), none, some (.int x2), some (.int x3), some (.int x4), some (.int x5), some (.int (x6 + (1 : Int32))), none] [] (cw κ cs I J W) (fun _ => rfl) (tt_F [some (.ref 58), none, some (.int x2), some (.int x3), some (.int x4), some (.int x5), some (.int (x6 + (1 : Int32))), none] (And.intro rfl (And.intro rfl (And.intro rfl (And.intro rfl (And.intro rfl (And.intro rfl trivial)))))) (k3 x2 x3 x4 x5 (x6 + (1 : Int32)) I _ h))
theorem tb_110_3 {d : Nat} {κ : Nat × Option Nat} {cs : Nat × Nat} {J : Nat → Nat → Int64} {W : Nat} (c3 : Int32 → Int32 → Int32 → Int32 → Int32 → (Nat → Nat → Int32) → Option (Int32 ⊕ Nat)) (k3 : ∀ (x2 : Int32) (x3 : Int32) (x4 : Int32) (x5 : Int32) (x6 : Int32) (I : (Nat → Nat → Int32)) (r : (Int32 ⊕ Nat)), c3 x2 x3 x4 x5 x6 I = some r → tt (d + 4) me_110 bk_110_3 [some (.ref 58), none, some (.int x2), some (.int x3), some (.int x4), some (.int x5), some (.int x6), none] [] (cw κ cs I J W) (xi r) (cw κ (xc cs r) I J W)) (x2 : Int32) (x3 : Int32) (x4 : Int32) (x5 : Int32) (x6 : Int32) (I : (Nat → Nat → Int32)) (r : (Int32 ⊕ Nat)) (h : bd_110_3  c3 x2 x3 x4 x5 x6 I = some r) : tt (d + 4) me_110 bk_110_3 [some (.ref 58), none, some (.int x2), some (.int x3), some (.int x4), some (.int x5), some (.int x6), none] [] (cw κ cs I J W) (xi r) (cw κ (xc cs r) I J W) :=
  tt_I (L1 := (bk_110_3.drop 3)) (L2 := bk_110_5) 3 [some (.ref 58), none, some (.int x2), some (.int x3), some (.int x4), some (.int x5), some (.int x6), none] [] (cw κ cs I J W) h (fun _ => rfl) (fun h =>
  tt_C (L1 := (bk_110_3.drop 18)) 15 [some (.ref 58), none, some (.int x2), some (.int x3), some (.int ((x4 * (1103515245 : Int32)) + (12345 : Int32))), some (.int x5), some (.int x6), none] [] (cw κ cs I J W) h (fun _ => rfl) (fun _ e => m_125 (d := d + 2) e) fun q3 h =>
  tt_C (L1 := (bk_110_3.drop 24)) 6 [some (.ref 58), none, some (.int x2), some (.int x3), some (.int ((x4 * (1103515245 : Int32)) + (12345 : Int32))), some (.int x5), some (.int x6), some (.int q3)] [] (cw κ cs I J W) h (fun _ => rfl) (fun _ e => m_55 (d := d) e) fun q4 h =>
  tt_I (L1 := (bk_110_3.drop 28)) (L2 := bk_110_4) 4 [some (.ref 58), none, some (.int x2), some (.int x3), some (.int ((x4 * (1103515245 : Int32)) + (12345 : Int32))), some (.int x5), some (.int x6), some (.int q3)] [] (cw κ cs I J W) h (fun _ => rfl) (fun h =>
  tt_J (L1 := bk_110_4) 0 [some (.ref 58), none, some (.int x2), some (.int x3), some (.int ((x4 * (1103515245 : Int32)) + (12345 : Int32))), some (.int (x5 + (1 : Int32))), some (.int x6), some (.int q3)] [] (cw κ cs I J W) (fun _ => rfl) (tt_F [some (.ref 58), none, some (.int x2), some (.int x3), some (.int ((x4 * (1103515245 : Int32)) + (12345 : Int32))), some (.int (x5 + (1 : Int32))), some (.int x6), none] (And.intro rfl (And.intro rfl (And.intro rfl (And.intro rfl (And.intro rfl (And.intro rfl trivial)))))) (tl_110_4 c3 k3 x2 x3 ((x4 * (1103515245 : Int32)) + (12345 : Int32)) (x5 + (1 : Int32)) x6 I _ h))) (fun h =>
  tt_F [some (.ref 58), none, some (.int x2), some (.int x3), some (.int ((x4 * (1103515245 : Int32)) + (12345 : Int32))), some (.int x5), some (.int x6), none] (And.intro rfl (And.intro rfl (And.intro rfl (And.intro rfl (And.intro rfl (And.intro rfl trivial)))))) (tl_110_4 c3 k3 x2 x3 ((x4 * (1103515245 : Int32)) + (12345 : Int32)) x5 x6 I _ h))) (fun h =>
  tt_R 2 (fun r => (xi r)) (fun r => (cw κ (xc cs r) I J W)) h (fun _ => rfl))
theorem tn_110_3 {d : Nat} {κ : Nat × Option Nat} {cs : Nat × Nat} {J : Nat → Nat → Int64} {W : Nat} : ∀ (n : Nat) (x2 : Int32) (x3 : Int32) (x4 : Int32) (x5 : Int32) (x6 : Int32) (I : (Nat → Nat → Int32)) (r : (Int32 ⊕ Nat)), fx (fun _ _ _ _ _ _ => none) (bd_110_3 ) n x2 x3 x4 x5 x6 I = some r → tt (d + 4) me_110 bk_110_3 [some (.ref 58), none, some (.int x2), some (.int x3), some (.int x4), some (.int x5), some (.int x6), none] [] (cw κ cs I J W) (xi r) (cw κ (xc cs r) I J W)
  | 0 => fun _ _ _ _ _ _ _ h => nomatch h
  | n + 1 => fun x2 x3 x4 x5 x6 I r h => tb_110_3  (fx _ (bd_110_3 ) n) (tn_110_3  n) x2 x3 x4 x5 x6 I r h
theorem tl_110_3 {d : Nat} {κ : Nat × Option Nat} {cs : Nat × Nat} {J : Nat → Nat → Int64} {W : Nat} (x2 : Int32) (x3 : Int32) (x4 : Int32) (x5 : Int32) (x6 : Int32) (I : (Nat → Nat → Int32)) (r : (Int32 ⊕ Nat)) (h : lb_110_3  x2 x3 x4 x5 x6 I = some r) : tt (d + 4) me_110 bk_110_3 [some (.ref 58), none, some (.int x2), some (.int x3), some (.int x4), some (.int x5), some (.int x6), none] [] (cw κ cs I J W) (xi r) (cw κ (xc cs r) I J W) := tn_110_3  FU x2 x3 x4 x5 x6 I r h
theorem m_110 {d : Nat} {κ : Nat × Option Nat} {cs : Nat × Nat} {J : Nat → Nat → Int64} {W : Nat} {x1 : Int32} {x2 : Int32} {x3 : Int32} {I : (Nat → Nat → Int32)} {r : (Int32 ⊕ Nat)} (h : f_110 x1 x2 x3 I = some r) : tm (d + 4) 110 [.ref 58, .int x1, .int x2, .int x3] (cw κ cs I J W) (xi r) (cw κ (xc cs r) I J W) :=
  tm_of me_110 rfl (Nat.le_of_ble_eq_true rfl) (
  tt_C (L1 := (bk_110_0.drop 4)) 4 [some (.ref 58), some (.int x1), some (.int x2), some (.int x3), none, none, none, none] [] (cw κ cs I J W) h (fun _ => rfl) (fun _ e => m_122 (d := d + 3) e) fun q1 h =>
  tt_I (L1 := bk_110_1) (L2 := (bk_110_0.drop 5)) 1 [some (.ref 58), some (.int x1), some (.int x2), some (.int x3), none, none, none, none] [] (cw κ cs I J W) h (fun _ => rfl) (fun h =>
  tt_F [none, none, none, none, none, none, none, none] trivial (tl_110_1   I _ h)) (fun h =>
  tt_C (L1 := (bk_110_0.drop 9)) 4 [some (.ref 58), some (.int x1), some (.int x2), some (.int x3), none, none, none, none] [] (cw κ cs I J W) h (fun _ => rfl) (fun _ e => m_122 (d := d + 3) e) fun q2 h =>
  tt_I (L1 := bk_110_1) (L2 := bk_110_2) 1 [some (.ref 58), some (.int x1), some (.int x2), some (.int x3), none, none, none, none] [] (cw κ cs I J W) h (fun _ => rfl) (fun h =>
  tt_F [none, none, none, none, none, none, none, none] trivial (tl_110_1   I _ h)) (fun h =>
  tt_J (L1 := bk_110_3) 5 [some (.ref 58), some (.int x1), some (.int x2), some (.int x3), some (.int x1), some (.int (0 : Int32)), some (.int (0 : Int32)), none] [] (cw κ cs I J W) (fun _ => rfl) (tt_F [some (.ref 58), none, some (.int x2), some (.int x3), some (.int x1), some (.int (0 : Int32)), some (.int (0 : Int32)), none] (And.intro rfl (And.intro rfl (And.intro rfl (And.intro rfl (And.intro rfl (And.intro rfl trivial)))))) (tl_110_3  x2 x3 x1 (0 : Int32) (0 : Int32) I _ h)))))
/- 111 -/
def bd_111_5 (c5 : Int32 → Int32 → Int32 → Option (Int32 ⊕ Nat)) (x3 : Int32) (x4 : Int32) (x5 : Int32) : Option (Int32 ⊕ Nat) :=
  (if x5 < (1000 : Int32) then (if x4 < x3 then (c5 x3 (x4 * (3 : Int32)) (x5 + (1 : Int32)) ) else (some (.inl x5))) else (some (.inl ((-1) : Int32))))
def lb_111_5 : Int32 → Int32 → Int32 → Option (Int32 ⊕ Nat) := fx (fun _ _ _ => none) (bd_111_5 ) FU
def lb_111_4 (s0 : Int32) : Option (Int32 ⊕ Nat) :=
  (lb_111_5  s0 (1 : Int32) (0 : Int32) )
def lb_111_2 (x1 : Int32) (x2 : Int32) : Option (Int32 ⊕ Nat) :=
  (if x2 = 0 then (lb_111_4  (((2 : Int32) * x1) + (3 : Int32)) ) else (lb_111_4  x1 ))
def f_111 (x1 : Int32) (x2 : Int32) : Option (Int32 ⊕ Nat) :=
  ((f_122 x1 (1 : Int32) (1000 : Int32) ).bind fun q1 => (if q1 = 0 then (some (.inr 0)) else (if x2 = 0 then (if x1 < (3 : Int32) then (some (.inl ((-1) : Int32))) else (lb_111_2  x1 x2 )) else (lb_111_2  x1 x2 ))))
theorem tb_111_5 {d : Nat} {κ : Nat × Option Nat} {cs : Nat × Nat} {I : Nat → Nat → Int32} {J : Nat → Nat → Int64} {W : Nat} (c5 : Int32 → Int32 → Int32 → Option (Int32 ⊕ Nat)) (k5 : ∀ (x3 : Int32) (x4 : Int32) (x5 : Int32) (r : (Int32 ⊕ Nat)), c5 x3 x4 x5  = some r → tt (d + 1) me_111 bk_111_5 [none, none, none, some (.int x3), some (.int x4), some (.int x5)] [] (cw κ cs I J W) (xi r) (cw κ (xc cs r) I J W)) (x3 : Int32) (x4 : Int32) (x5 : Int32) (r : (Int32 ⊕ Nat)) (h : bd_111_5  c5 x3 x4 x5  = some r) : tt (d + 1) me_111 bk_111_5 [none, none, none, some (.int x3), some (.int x4), some (.int x5)] [] (cw κ cs I J W) (xi r) (cw κ (xc cs r) I J W) :=
  tt_I (L1 := (bk_111_5.drop 3)) (L2 := bk_111_7) 3 [none, none, none, some (.int x3), some (.int x4), some (.int x5)] [] (cw κ cs I J W) h (fun _ => rfl) (fun h =>
  tt_I (L1 := bk_111_6) (L2 := (bk_111_5.drop 6)) 3 [none, none, none, some (.int x3), some (.int x4), some (.int x5)] [] (cw κ cs I J W) h (fun _ => rfl) (fun h =>
  tt_J (L1 := bk_111_5) 5 [none, none, none, some (.int x3), some (.int (x4 * (3 : Int32))), some (.int (x5 + (1 : Int32)))] [] (cw κ cs I J W) (fun _ => rfl) (tt_F [none, none, none, some (.int x3), some (.int (x4 * (3 : Int32))), some (.int (x5 + (1 : Int32)))] (And.intro rfl (And.intro rfl (And.intro rfl trivial))) (k5 x3 (x4 * (3 : Int32)) (x5 + (1 : Int32))  _ h))) (fun h =>
  tt_R 2 (fun r => (xi r)) (fun r => (cw κ (xc cs r) I J W)) h (fun _ => rfl))) (fun h =>
  tt_R 2 (fun r => (xi r)) (fun r => (cw κ (xc cs r) I J W)) h (fun _ => rfl))
theorem tn_111_5 {d : Nat} {κ : Nat × Option Nat} {cs : Nat × Nat} {I : Nat → Nat → Int32} {J : Nat → Nat → Int64} {W : Nat} : ∀ (n : Nat) (x3 : Int32) (x4 : Int32) (x5 : Int32) (r : (Int32 ⊕ Nat)), fx (fun _ _ _ => none) (bd_111_5 ) n x3 x4 x5  = some r → tt (d + 1) me_111 bk_111_5 [none, none, none, some (.int x3), some (.int x4), some (.int x5)] [] (cw κ cs I J W) (xi r) (cw κ (xc cs r) I J W)
  | 0 => fun _ _ _ _ h => nomatch h
  | n + 1 => fun x3 x4 x5  r h => tb_111_5  (fx _ (bd_111_5 ) n) (tn_111_5  n) x3 x4 x5  r h
theorem tl_111_5 {d : Nat} {κ : Nat × Option Nat} {cs : Nat × Nat} {I : Nat → Nat → Int32} {J : Nat → Nat → Int64} {W : Nat} (x3 : Int32) (x4 : Int32) (x5 : Int32) (r : (Int32 ⊕ Nat)) (h : lb_111_5  x3 x4 x5  = some r) : tt (d + 1) me_111 bk_111_5 [none, none, none, some (.int x3), some (.int x4), some (.int x5)] [] (cw κ cs I J W) (xi r) (cw κ (xc cs r) I J W) := tn_111_5  FU x3 x4 x5  r h
theorem tl_111_4 {d : Nat} {κ : Nat × Option Nat} {cs : Nat × Nat} {I : Nat → Nat → Int32} {J : Nat → Nat → Int64} {W : Nat} (s0 : Int32) (r : (Int32 ⊕ Nat)) (h : lb_111_4  s0  = some r) : tt (d + 1) me_111 bk_111_4 [none, none, none, none, none, none] [.int s0] (cw κ cs I J W) (xi r) (cw κ (xc cs r) I J W) :=
  tt_J (L1 := bk_111_5) 4 [none, none, none, some (.int s0), some (.int (1 : Int32)), some (.int (0 : Int32))] [] (cw κ cs I J W) (fun _ => rfl) (tt_F [none, none, none, some (.int s0), some (.int (1 : Int32)), some (.int (0 : Int32))] (And.intro rfl (And.intro rfl (And.intro rfl trivial))) (tl_111_5  s0 (1 : Int32) (0 : Int32)  _ h))
theorem tl_111_2 {d : Nat} {κ : Nat × Option Nat} {cs : Nat × Nat} {I : Nat → Nat → Int32} {J : Nat → Nat → Int64} {W : Nat} (x1 : Int32) (x2 : Int32) (r : (Int32 ⊕ Nat)) (h : lb_111_2  x1 x2  = some r) : tt (d + 1) me_111 bk_111_2 [none, some (.int x1), some (.int x2), none, none, none] [] (cw κ cs I J W) (xi r) (cw κ (xc cs r) I J W) :=
  tt_I (L1 := bk_111_3) (L2 := (bk_111_2.drop 2)) 2 [none, some (.int x1), some (.int x2), none, none, none] [] (cw κ cs I J W) h (fun _ => rfl) (fun h =>
  tt_J (L1 := bk_111_4) 4 [none, some (.int x1), some (.int x2), none, none, none] [.int (((2 : Int32) * x1) + (3 : Int32))] (cw κ cs I J W) (fun _ => rfl) (tt_F [none, none, none, none, none, none] trivial (tl_111_4  (((2 : Int32) * x1) + (3 : Int32))  _ h))) (fun h =>
  tt_J (L1 := bk_111_4) 1 [none, some (.int x1), some (.int x2), none, none, none] [.int x1] (cw κ cs I J W) (fun _ => rfl) (tt_F [none, none, none, none, none, none] trivial (tl_111_4  x1  _ h)))
theorem m_111 {d : Nat} {κ : Nat × Option Nat} {cs : Nat × Nat} {I : Nat → Nat → Int32} {J : Nat → Nat → Int64} {W : Nat} {x1 : Int32} {x2 : Int32} {r : (Int32 ⊕ Nat)} (h : f_111 x1 x2  = some r) : tm (d + 1) 111 [.ref 58, .int x1, .int x2] (cw κ cs I J W) (xi r) (cw κ (xc cs r) I J W) :=
  tm_of me_111 rfl (Nat.le_of_ble_eq_true rfl) (
  tt_C (L1 := (bk_111_0.drop 4)) 4 [some (.ref 58), some (.int x1), some (.int x2), none, none, none] [] (cw κ cs I J W) h (fun _ => rfl) (fun _ e => m_122 (d := d) e) fun q1 h =>
  tt_I (L1 := (bk_111_0.drop 5)) (L2 := bk_111_1) 1 [some (.ref 58), some (.int x1), some (.int x2), none, none, none] [] (cw κ cs I J W) h (fun _ => rfl) (fun h =>
  tt_R 1 (fun r => (xi r)) (fun r => (cw κ (xc cs r) I J W)) h (fun _ => rfl)) (fun h =>
  tt_I (L1 := (bk_111_1.drop 2)) (L2 := bk_111_2) 2 [some (.ref 58), some (.int x1), some (.int x2), none, none, none] [] (cw κ cs I J W) h (fun _ => rfl) (fun h =>
  tt_I (L1 := (bk_111_1.drop 5)) (L2 := bk_111_2) 3 [some (.ref 58), some (.int x1), some (.int x2), none, none, none] [] (cw κ cs I J W) h (fun _ => rfl) (fun h =>
  tt_R 2 (fun r => (xi r)) (fun r => (cw κ (xc cs r) I J W)) h (fun _ => rfl)) (fun h =>
  tt_F [none, some (.int x1), some (.int x2), none, none, none] (And.intro rfl (And.intro rfl trivial)) (tl_111_2  x1 x2  _ h))) (fun h =>
  tt_F [none, some (.int x1), some (.int x2), none, none, none] (And.intro rfl (And.intro rfl trivial)) (tl_111_2  x1 x2  _ h))))
/- 61 -/
def f_61 (I : (Nat → Nat → Int32)) : Option (Nat → Nat → Int32) :=
  (let I1 := cpyf I 88 93 60
  (let I2 := cpyf I1 89 94 60
  (let I3 := cpyf I2 90 95 60
  (let I4 := cpyf I3 91 96 20
  (let I5 := up I4 92 4 (I4 87 4)
  (some I5))))))
theorem m_61 {d : Nat} {κ : Nat × Option Nat} {cs : Nat × Nat} {J : Nat → Nat → Int64} {W : Nat} {I : (Nat → Nat → Int32)} {r : (Nat → Nat → Int32)} (h : f_61  I = some r) : tm (d + 2) 61 [.ref 92, .ref 87] (cw κ cs I J W) (.inl none) (cw κ cs r J W) :=
  tm_of me_61 rfl (Nat.le_of_ble_eq_true rfl) (
  let I1 := cpyf I 88 93 60
  tt_K (L1 := (bk_61_0.drop 5)) 5 [some (.ref 92), some (.ref 87)] [] (cw κ cs I J W) (fun _ => rfl) (m_copy 88 60 93 60 (Nat.le_of_ble_eq_true rfl) (Nat.le_of_ble_eq_true rfl) rfl rfl (Nat.le_of_ble_eq_true rfl))
  (let I2 := cpyf I1 89 94 60
  tt_K (L1 := (bk_61_0.drop 10)) 5 [some (.ref 92), some (.ref 87)] [] (cw κ cs I1 J W) (fun _ => rfl) (m_copy 89 60 94 60 (Nat.le_of_ble_eq_true rfl) (Nat.le_of_ble_eq_true rfl) rfl rfl (Nat.le_of_ble_eq_true rfl))
  (let I3 := cpyf I2 90 95 60
  tt_K (L1 := (bk_61_0.drop 15)) 5 [some (.ref 92), some (.ref 87)] [] (cw κ cs I2 J W) (fun _ => rfl) (m_copy 90 60 95 60 (Nat.le_of_ble_eq_true rfl) (Nat.le_of_ble_eq_true rfl) rfl rfl (Nat.le_of_ble_eq_true rfl))
  (let I4 := cpyf I3 91 96 20
  tt_K (L1 := (bk_61_0.drop 20)) 5 [some (.ref 92), some (.ref 87)] [] (cw κ cs I3 J W) (fun _ => rfl) (m_copy 91 20 96 20 (Nat.le_of_ble_eq_true rfl) (Nat.le_of_ble_eq_true rfl) rfl rfl (Nat.le_of_ble_eq_true rfl))
  (let I5 := up I4 92 4 (I4 87 4)
  tt_R 5 (fun r => (.inl none)) (fun r => (cw κ cs r J W)) h (fun _ => rfl))))))
/- 112 -/
def f_112 (I : (Nat → Nat → Int32)) : Option (Nat → Nat → Int32) :=
  ((f_61  I).bind fun q1 => (let I2 := up q1 58 9 (1 : Int32)
  (some I2)))
theorem m_112 {d : Nat} {κ : Nat × Option Nat} {cs : Nat × Nat} {J : Nat → Nat → Int64} {W : Nat} {I : (Nat → Nat → Int32)} {r : (Nat → Nat → Int32)} (h : f_112  I = some r) : tm (d + 3) 112 [.ref 58] (cw κ cs I J W) (.inl none) (cw κ cs r J W) :=
  tm_of me_112 rfl (Nat.le_of_ble_eq_true rfl) (
  tt_C (L1 := (bk_112_0.drop 5)) 5 [some (.ref 58)] [] (cw κ cs I J W) h (fun _ => rfl) (fun _ e => m_61 (d := d) e) fun q1 h =>
  let I2 := up q1 58 9 (1 : Int32)
  tt_R 4 (fun r => (.inl none)) (fun r => (cw κ cs r J W)) h (fun _ => rfl))
/- 61 -/
def f_61_87_92 (I : (Nat → Nat → Int32)) : Option (Nat → Nat → Int32) :=
  (let I1 := cpyf I 93 88 60
  (let I2 := cpyf I1 94 89 60
  (let I3 := cpyf I2 95 90 60
  (let I4 := cpyf I3 96 91 20
  (let I5 := up I4 87 4 (I4 92 4)
  (some I5))))))
theorem m_61_87_92 {d : Nat} {κ : Nat × Option Nat} {cs : Nat × Nat} {J : Nat → Nat → Int64} {W : Nat} {I : (Nat → Nat → Int32)} {r : (Nat → Nat → Int32)} (h : f_61_87_92  I = some r) : tm (d + 2) 61 [.ref 87, .ref 92] (cw κ cs I J W) (.inl none) (cw κ cs r J W) :=
  tm_of me_61 rfl (Nat.le_of_ble_eq_true rfl) (
  let I1 := cpyf I 93 88 60
  tt_K (L1 := (bk_61_0.drop 5)) 5 [some (.ref 87), some (.ref 92)] [] (cw κ cs I J W) (fun _ => rfl) (m_copy 93 60 88 60 (Nat.le_of_ble_eq_true rfl) (Nat.le_of_ble_eq_true rfl) rfl rfl (Nat.le_of_ble_eq_true rfl))
  (let I2 := cpyf I1 94 89 60
  tt_K (L1 := (bk_61_0.drop 10)) 5 [some (.ref 87), some (.ref 92)] [] (cw κ cs I1 J W) (fun _ => rfl) (m_copy 94 60 89 60 (Nat.le_of_ble_eq_true rfl) (Nat.le_of_ble_eq_true rfl) rfl rfl (Nat.le_of_ble_eq_true rfl))
  (let I3 := cpyf I2 95 90 60
  tt_K (L1 := (bk_61_0.drop 15)) 5 [some (.ref 87), some (.ref 92)] [] (cw κ cs I2 J W) (fun _ => rfl) (m_copy 95 60 90 60 (Nat.le_of_ble_eq_true rfl) (Nat.le_of_ble_eq_true rfl) rfl rfl (Nat.le_of_ble_eq_true rfl))
  (let I4 := cpyf I3 96 91 20
  tt_K (L1 := (bk_61_0.drop 20)) 5 [some (.ref 87), some (.ref 92)] [] (cw κ cs I3 J W) (fun _ => rfl) (m_copy 96 20 91 20 (Nat.le_of_ble_eq_true rfl) (Nat.le_of_ble_eq_true rfl) rfl rfl (Nat.le_of_ble_eq_true rfl))
  (let I5 := up I4 87 4 (I4 92 4)
  tt_R 5 (fun r => (.inl none)) (fun r => (cw κ cs r J W)) h (fun _ => rfl))))))
/- 113 -/
def lb_113_1 (I : (Nat → Nat → Int32)) : Option (Int32 × (Nat → Nat → Int32)) :=
  (if ((I 58 9) = 0 ∨ (I 58 9) = 1) then some ((I 58 9), I) else none)
def f_113 (I : (Nat → Nat → Int32)) : Option (Int32 × (Nat → Nat → Int32)) :=
  (if (I 58 9) = 0 then (lb_113_1   I) else ((f_61_87_92  I).bind fun q1 => (lb_113_1   q1)))
theorem tl_113_1 {d : Nat} {κ : Nat × Option Nat} {cs : Nat × Nat} {J : Nat → Nat → Int64} {W : Nat} (I : (Nat → Nat → Int32)) (r : (Int32 × (Nat → Nat → Int32))) (h : lb_113_1   I = some r) : tt (d + 3) me_113 bk_113_1 [some (.ref 58)] [] (cw κ cs I J W) (.inl (some (.int r.1))) (cw κ cs r.2 J W) :=
  tt_B 3 (fun r => (.inl (some (.int r.1)))) (fun r => (cw κ cs r.2 J W)) h (fun q => Or.inr (Or.inl ⟨rfl, q⟩)) (fun _ => rfl)
theorem m_113 {d : Nat} {κ : Nat × Option Nat} {cs : Nat × Nat} {J : Nat → Nat → Int64} {W : Nat} {I : (Nat → Nat → Int32)} {r : (Int32 × (Nat → Nat → Int32))} (h : f_113  I = some r) : tm (d + 3) 113 [.ref 58] (cw κ cs I J W) (.inl (some (.int r.1))) (cw κ cs r.2 J W) :=
  tm_of me_113 rfl (Nat.le_of_ble_eq_true rfl) (
  tt_I (L1 := bk_113_1) (L2 := (bk_113_0.drop 3)) 3 [some (.ref 58)] [] (cw κ cs I J W) h (fun _ => rfl) (fun h =>
  tt_F [some (.ref 58)] (And.intro rfl trivial) (tl_113_1   I _ h)) (fun h =>
  tt_C (L1 := bk_113_1) 5 [some (.ref 58)] [] (cw κ cs I J W) h (fun _ => rfl) (fun _ e => m_61_87_92 (d := d) e) fun q1 h =>
  tt_F [some (.ref 58)] (And.intro rfl trivial) (tl_113_1   q1 _ h)))
/- 50 -/
def bd_50_3 (c3 : Int32 → Int32 → (Nat → Nat → Int32) → Option (Nat → Nat → Int32)) (x1 : Int32) (x3 : Int32) (I : (Nat → Nat → Int32)) : Option (Nat → Nat → Int32) :=
  (if x3 < (I 79 4) then ((f_10 x3 I).bind fun q4 => (let I5 := putf I 83 480 ((x1 * (60 : Int32)) + x3) q4
  (c3 x1 (x3 + (1 : Int32)) I5))) else (some I))
def lb_50_3 : Int32 → Int32 → (Nat → Nat → Int32) → Option (Nat → Nat → Int32) := fx (fun _ _ _ => none) (bd_50_3 ) FU
def bd_50_1 (c1 : Int32 → Int32 → (Nat → Nat → Int32) → Option (Nat → Nat → Int32)) (x1 : Int32) (x3 : Int32) (I : (Nat → Nat → Int32)) : Option (Nat → Nat → Int32) :=
  (if x3 < (I 79 5) then ((f_53 x1 x3 I).bind fun q6 => ((f_7 x3 q6 I).bind fun q7 => (c1 x1 (x3 + (1 : Int32)) q7))) else (lb_50_3  x1 (0 : Int32) I))
def lb_50_1 : Int32 → Int32 → (Nat → Nat → Int32) → Option (Nat → Nat → Int32) := fx (fun _ _ _ => none) (bd_50_1 ) FU
def f_50 (x1 : Int32) (I : (Nat → Nat → Int32)) : Option (Nat → Nat → Int32) :=
  ((f_51 x1 I).bind fun q1 => ((f_52 x1 I).bind fun q2 => ((f_3 q1 q2 I).bind fun q3 => (lb_50_1  x1 (0 : Int32) q3))))
theorem tb_50_3 {d : Nat} {κ : Nat × Option Nat} {cs : Nat × Nat} {J : Nat → Nat → Int64} {W : Nat} (c3 : Int32 → Int32 → (Nat → Nat → Int32) → Option (Nat → Nat → Int32)) (k3 : ∀ (x1 : Int32) (x3 : Int32) (I : (Nat → Nat → Int32)) (r : (Nat → Nat → Int32)), c3 x1 x3 I = some r → tt (d + 3) me_50 bk_50_3 [some (.ref 79), some (.int x1), some (.ref 74), some (.int x3)] [] (cw κ cs I J W) (.inl none) (cw κ cs r J W)) (x1 : Int32) (x3 : Int32) (I : (Nat → Nat → Int32)) (r : (Nat → Nat → Int32)) (h : bd_50_3  c3 x1 x3 I = some r) : tt (d + 3) me_50 bk_50_3 [some (.ref 79), some (.int x1), some (.ref 74), some (.int x3)] [] (cw κ cs I J W) (.inl none) (cw κ cs r J W) :=
  tt_I (L1 := (bk_50_3.drop 4)) (L2 := bk_50_4) 4 [some (.ref 79), some (.int x1), some (.ref 74), some (.int x3)] [] (cw κ cs I J W) h (fun _ => rfl) (fun h =>
  tt_C (L1 := (bk_50_3.drop 14)) 10 [some (.ref 79), some (.int x1), some (.ref 74), some (.int x3)] [.int ((x1 * (60 : Int32)) + x3), .ref 83] (cw κ cs I J W) h (fun _ => rfl) (fun _ e => m_10 (d := d) e) fun q4 h =>
  let I5 := putf I 83 480 ((x1 * (60 : Int32)) + x3) q4
  tt_K (L1 := (bk_50_3.drop 15)) 1 [some (.ref 79), some (.int x1), some (.ref 74), some (.int x3)] [] (cw κ cs I J W) (fun _ => rfl) (m_put 83 480 ((x1 * (60 : Int32)) + x3) q4 (Nat.le_of_ble_eq_true rfl) rfl (Nat.le_of_ble_eq_true rfl))
  (tt_J (L1 := bk_50_3) 1 [some (.ref 79), some (.int x1), some (.ref 74), some (.int (x3 + (1 : Int32)))] [] (cw κ cs I5 J W) (fun _ => rfl) (tt_F [some (.ref 79), some (.int x1), some (.ref 74), some (.int (x3 + (1 : Int32)))] (And.intro rfl (And.intro rfl (And.intro rfl (And.intro rfl trivial)))) (k3 x1 (x3 + (1 : Int32)) I5 _ h)))) (fun h =>
  tt_R 1 (fun r => (.inl none)) (fun r => (cw κ cs r J W)) h (fun _ => rfl))
theorem tn_50_3 {d : Nat} {κ : Nat × Option Nat} {cs : Nat × Nat} {J : Nat → Nat → Int64} {W : Nat} : ∀ (n : Nat) (x1 : Int32) (x3 : Int32) (I : (Nat → Nat → Int32)) (r : (Nat → Nat → Int32)), fx (fun _ _ _ => none) (bd_50_3 ) n x1 x3 I = some r → tt (d + 3) me_50 bk_50_3 [some (.ref 79), some (.int x1), some (.ref 74), some (.int x3)] [] (cw κ cs I J W) (.inl none) (cw κ cs r J W)
  | 0 => fun _ _ _ _ h => nomatch h
  | n + 1 => fun x1 x3 I r h => tb_50_3  (fx _ (bd_50_3 ) n) (tn_50_3  n) x1 x3 I r h
theorem tl_50_3 {d : Nat} {κ : Nat × Option Nat} {cs : Nat × Nat} {J : Nat → Nat → Int64} {W : Nat} (x1 : Int32) (x3 : Int32) (I : (Nat → Nat → Int32)) (r : (Nat → Nat → Int32)) (h : lb_50_3  x1 x3 I = some r) : tt (d + 3) me_50 bk_50_3 [some (.ref 79), some (.int x1), some (.ref 74), some (.int x3)] [] (cw κ cs I J W) (.inl none) (cw κ cs r J W) := tn_50_3  FU x1 x3 I r h
theorem tb_50_1 {d : Nat} {κ : Nat × Option Nat} {cs : Nat × Nat} {J : Nat → Nat → Int64} {W : Nat} (c1 : Int32 → Int32 → (Nat → Nat → Int32) → Option (Nat → Nat → Int32)) (k1 : ∀ (x1 : Int32) (x3 : Int32) (I : (Nat → Nat → Int32)) (r : (Nat → Nat → Int32)), c1 x1 x3 I = some r → tt (d + 3) me_50 bk_50_1 [some (.ref 79), some (.int x1), some (.ref 74), some (.int x3)] [] (cw κ cs I J W) (.inl none) (cw κ cs r J W)) (x1 : Int32) (x3 : Int32) (I : (Nat → Nat → Int32)) (r : (Nat → Nat → Int32)) (h : bd_50_1  c1 x1 x3 I = some r) : tt (d + 3) me_50 bk_50_1 [some (.ref 79), some (.int x1), some (.ref 74), some (.int x3)] [] (cw κ cs I J W) (.inl none) (cw κ cs r J W) :=
  tt_I (L1 := (bk_50_1.drop 4)) (L2 := bk_50_2) 4 [some (.ref 79), some (.int x1), some (.ref 74), some (.int x3)] [] (cw κ cs I J W) h (fun _ => rfl) (fun h =>
  tt_C (L1 := (bk_50_1.drop 10)) 6 [some (.ref 79), some (.int x1), some (.ref 74), some (.int x3)] [.int x3, .ref 74] (cw κ cs I J W) h (fun _ => rfl) (fun _ e => m_53 (d := d) e) fun q6 h =>
  tt_C (L1 := (bk_50_1.drop 11)) 1 [some (.ref 79), some (.int x1), some (.ref 74), some (.int x3)] [] (cw κ cs I J W) h (fun _ => rfl) (fun _ e => m_7 (d := d) e) fun q7 h =>
  tt_J (L1 := bk_50_1) 1 [some (.ref 79), some (.int x1), some (.ref 74), some (.int (x3 + (1 : Int32)))] [] (cw κ cs q7 J W) (fun _ => rfl) (tt_F [some (.ref 79), some (.int x1), some (.ref 74), some (.int (x3 + (1 : Int32)))] (And.intro rfl (And.intro rfl (And.intro rfl (And.intro rfl trivial)))) (k1 x1 (x3 + (1 : Int32)) q7 _ h))) (fun h =>
  tt_J (L1 := bk_50_3) 1 [some (.ref 79), some (.int x1), some (.ref 74), some (.int (0 : Int32))] [] (cw κ cs I J W) (fun _ => rfl) (tt_F [some (.ref 79), some (.int x1), some (.ref 74), some (.int (0 : Int32))] (And.intro rfl (And.intro rfl (And.intro rfl (And.intro rfl trivial)))) (tl_50_3  x1 (0 : Int32) I _ h)))
theorem tn_50_1 {d : Nat} {κ : Nat × Option Nat} {cs : Nat × Nat} {J : Nat → Nat → Int64} {W : Nat} : ∀ (n : Nat) (x1 : Int32) (x3 : Int32) (I : (Nat → Nat → Int32)) (r : (Nat → Nat → Int32)), fx (fun _ _ _ => none) (bd_50_1 ) n x1 x3 I = some r → tt (d + 3) me_50 bk_50_1 [some (.ref 79), some (.int x1), some (.ref 74), some (.int x3)] [] (cw κ cs I J W) (.inl none) (cw κ cs r J W)
  | 0 => fun _ _ _ _ h => nomatch h
  | n + 1 => fun x1 x3 I r h => tb_50_1  (fx _ (bd_50_1 ) n) (tn_50_1  n) x1 x3 I r h
theorem tl_50_1 {d : Nat} {κ : Nat × Option Nat} {cs : Nat × Nat} {J : Nat → Nat → Int64} {W : Nat} (x1 : Int32) (x3 : Int32) (I : (Nat → Nat → Int32)) (r : (Nat → Nat → Int32)) (h : lb_50_1  x1 x3 I = some r) : tt (d + 3) me_50 bk_50_1 [some (.ref 79), some (.int x1), some (.ref 74), some (.int x3)] [] (cw κ cs I J W) (.inl none) (cw κ cs r J W) := tn_50_1  FU x1 x3 I r h
theorem m_50 {d : Nat} {κ : Nat × Option Nat} {cs : Nat × Nat} {J : Nat → Nat → Int64} {W : Nat} {x1 : Int32} {I : (Nat → Nat → Int32)} {r : (Nat → Nat → Int32)} (h : f_50 x1 I = some r) : tm (d + 3) 50 [.ref 79, .int x1, .ref 74] (cw κ cs I J W) (.inl none) (cw κ cs r J W) :=
  tm_of me_50 rfl (Nat.le_of_ble_eq_true rfl) (
  tt_C (L1 := (bk_50_0.drop 4)) 4 [some (.ref 79), some (.int x1), some (.ref 74), none] [.ref 74] (cw κ cs I J W) h (fun _ => rfl) (fun _ e => m_51 (d := d) e) fun q1 h =>
  tt_C (L1 := (bk_50_0.drop 7)) 3 [some (.ref 79), some (.int x1), some (.ref 74), none] [.int q1, .ref 74] (cw κ cs I J W) h (fun _ => rfl) (fun _ e => m_52 (d := d) e) fun q2 h =>
  tt_C (L1 := (bk_50_0.drop 8)) 1 [some (.ref 79), some (.int x1), some (.ref 74), none] [] (cw κ cs I J W) h (fun _ => rfl) (fun _ e => m_3 (d := d + 2) e) fun q3 h =>
  tt_J (L1 := bk_50_1) 1 [some (.ref 79), some (.int x1), some (.ref 74), some (.int (0 : Int32))] [] (cw κ cs q3 J W) (fun _ => rfl) (tt_F [some (.ref 79), some (.int x1), some (.ref 74), some (.int (0 : Int32))] (And.intro rfl (And.intro rfl (And.intro rfl (And.intro rfl trivial)))) (tl_50_1  x1 (0 : Int32) q3 _ h)))
