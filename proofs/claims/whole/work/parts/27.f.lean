/-! functions, by wip/whole/sy.py -/
/- 109 -/
def lb_109_8 (s0 : Int32) (I : (Nat → Nat → Int32)) : Option ((Int32 ⊕ Nat) × (Nat → Nat → Int32)) :=
  (some ((.inl s0), I))
def lb_109_5 (c2 : Int32 → Int32 → Int32 → Int32 → (Nat → Nat → Int32) → Option ((Int32 ⊕ Nat) × (Nat → Nat → Int32))) (x1 : Int32) (x2 : Int32) (x3 : Int32) (x4 : Int32) (I : (Nat → Nat → Int32)) : Option ((Int32 ⊕ Nat) × (Nat → Nat → Int32)) :=
  (c2 x1 x2 x3 (x4 + (1 : Int32)) I)
def lb_109_4 (c2 : Int32 → Int32 → Int32 → Int32 → (Nat → Nat → Int32) → Option ((Int32 ⊕ Nat) × (Nat → Nat → Int32))) (x1 : Int32) (x2 : Int32) (x4 : Int32) (s0 : Int32) (I : (Nat → Nat → Int32)) : Option ((Int32 ⊕ Nat) × (Nat → Nat → Int32)) :=
  (lb_109_5 c2 x1 x2 s0 x4 I)
def bd_109_2 (c2 : Int32 → Int32 → Int32 → Int32 → (Nat → Nat → Int32) → Option ((Int32 ⊕ Nat) × (Nat → Nat → Int32))) (x1 : Int32) (x2 : Int32) (x3 : Int32) (x4 : Int32) (I : (Nat → Nat → Int32)) : Option ((Int32 ⊕ Nat) × (Nat → Nat → Int32)) :=
  (if x4 < (648 : Int32) then ((f_119 x4 I).bind fun q1 => (if q1 = 0 then (lb_109_5 c2 x1 x2 x3 x4 I) else ((f_65 x4 I).bind fun q2 => (if q2.1 = 0 then (lb_109_5 c2 x1 x2 x3 x4 q2.2) else (if x3 = ((-1) : Int32) then (lb_109_4 c2 x1 (x2 + (1 : Int32)) x4 x4 q2.2) else (lb_109_4 c2 x1 (x2 + (1 : Int32)) x4 x3 q2.2)))))) else (if x1 = 0 then (lb_109_8  x2 I) else (lb_109_8  x3 I)))
def lb_109_2 : Int32 → Int32 → Int32 → Int32 → (Nat → Nat → Int32) → Option ((Int32 ⊕ Nat) × (Nat → Nat → Int32)) := fx (fun _ _ _ _ _ => none) (bd_109_2 ) FU
def lb_109_1 (x1 : Int32) (I : (Nat → Nat → Int32)) : Option ((Int32 ⊕ Nat) × (Nat → Nat → Int32)) :=
  (lb_109_2  x1 (0 : Int32) ((-1) : Int32) (0 : Int32) I)
def f_109 (x1 : Int32) (I : (Nat → Nat → Int32)) : Option ((Int32 ⊕ Nat) × (Nat → Nat → Int32)) :=
  (if x1 = 0 then (lb_109_1  x1 I) else (if x1 = (1 : Int32) then (lb_109_1  x1 I) else (some ((.inr 1), I))))
theorem tl_109_8 {d : Nat} {κ : KT} {cs : Nat × Nat} {J : Nat → Nat → Int64} {W : Nat} (s0 : Int32) (I : (Nat → Nat → Int32)) (r : ((Int32 ⊕ Nat) × (Nat → Nat → Int32))) (h : lb_109_8  s0 I = some r) : tt (d + 6) me_109 bk_109_8 [none, none, none, none, none] [.int s0] (cw κ cs I J W) (xi r.1) (cw κ (xc cs r.1) r.2 J W) :=
  tt_R 1 (fun r => (xi r.1)) (fun r => (cw κ (xc cs r.1) r.2 J W)) h (fun _ => rfl)
theorem tl_109_5 {d : Nat} {κ : KT} {cs : Nat × Nat} {J : Nat → Nat → Int64} {W : Nat} (c2 : Int32 → Int32 → Int32 → Int32 → (Nat → Nat → Int32) → Option ((Int32 ⊕ Nat) × (Nat → Nat → Int32))) (k2 : ∀ (x1 : Int32) (x2 : Int32) (x3 : Int32) (x4 : Int32) (I : (Nat → Nat → Int32)) (r : ((Int32 ⊕ Nat) × (Nat → Nat → Int32))), c2 x1 x2 x3 x4 I = some r → tt (d + 6) me_109 bk_109_2 [some (.ref 58), some (.int x1), some (.int x2), some (.int x3), some (.int x4)] [] (cw κ cs I J W) (xi r.1) (cw κ (xc cs r.1) r.2 J W)) (x1 : Int32) (x2 : Int32) (x3 : Int32) (x4 : Int32) (I : (Nat → Nat → Int32)) (r : ((Int32 ⊕ Nat) × (Nat → Nat → Int32))) (h : lb_109_5 c2 x1 x2 x3 x4 I = some r) : tt (d + 6) me_109 bk_109_5 [some (.ref 58), some (.int x1), some (.int x2), some (.int x3), some (.int x4)] [] (cw κ cs I J W) (xi r.1) (cw κ (xc cs r.1) r.2 J W) :=
  tt_J (L1 := bk_109_2) 1 [some (.ref 58), some (.int x1), some (.int x2), some (.int x3), some (.int (x4 + (1 : Int32)))] [] (cw κ cs I J W) (fun _ => rfl) (tt_F [some (.ref 58), some (.int x1), some (.int x2), some (.int x3), some (.int (x4 + (1 : Int32)))] (And.intro rfl (And.intro rfl (And.intro rfl (And.intro rfl (And.intro rfl trivial))))) (k2 x1 x2 x3 (x4 + (1 : Int32)) I _ h))
theorem tl_109_4 {d : Nat} {κ : KT} {cs : Nat × Nat} {J : Nat → Nat → Int64} {W : Nat} (c2 : Int32 → Int32 → Int32 → Int32 → (Nat → Nat → Int32) → Option ((Int32 ⊕ Nat) × (Nat → Nat → Int32))) (k2 : ∀ (x1 : Int32) (x2 : Int32) (x3 : Int32) (x4 : Int32) (I : (Nat → Nat → Int32)) (r : ((Int32 ⊕ Nat) × (Nat → Nat → Int32))), c2 x1 x2 x3 x4 I = some r → tt (d + 6) me_109 bk_109_2 [some (.ref 58), some (.int x1), some (.int x2), some (.int x3), some (.int x4)] [] (cw κ cs I J W) (xi r.1) (cw κ (xc cs r.1) r.2 J W)) (x1 : Int32) (x2 : Int32) (x4 : Int32) (s0 : Int32) (I : (Nat → Nat → Int32)) (r : ((Int32 ⊕ Nat) × (Nat → Nat → Int32))) (h : lb_109_4 c2 x1 x2 x4 s0 I = some r) : tt (d + 6) me_109 bk_109_4 [some (.ref 58), some (.int x1), some (.int x2), none, some (.int x4)] [.int s0] (cw κ cs I J W) (xi r.1) (cw κ (xc cs r.1) r.2 J W) :=
  tt_J (L1 := bk_109_5) 0 [some (.ref 58), some (.int x1), some (.int x2), some (.int s0), some (.int x4)] [] (cw κ cs I J W) (fun _ => rfl) (tt_F [some (.ref 58), some (.int x1), some (.int x2), some (.int s0), some (.int x4)] (And.intro rfl (And.intro rfl (And.intro rfl (And.intro rfl (And.intro rfl trivial))))) (tl_109_5 c2 k2 x1 x2 s0 x4 I _ h))
theorem tb_109_2 {d : Nat} {κ : KT} {cs : Nat × Nat} {J : Nat → Nat → Int64} {W : Nat} (c2 : Int32 → Int32 → Int32 → Int32 → (Nat → Nat → Int32) → Option ((Int32 ⊕ Nat) × (Nat → Nat → Int32))) (k2 : ∀ (x1 : Int32) (x2 : Int32) (x3 : Int32) (x4 : Int32) (I : (Nat → Nat → Int32)) (r : ((Int32 ⊕ Nat) × (Nat → Nat → Int32))), c2 x1 x2 x3 x4 I = some r → tt (d + 6) me_109 bk_109_2 [some (.ref 58), some (.int x1), some (.int x2), some (.int x3), some (.int x4)] [] (cw κ cs I J W) (xi r.1) (cw κ (xc cs r.1) r.2 J W)) (x1 : Int32) (x2 : Int32) (x3 : Int32) (x4 : Int32) (I : (Nat → Nat → Int32)) (r : ((Int32 ⊕ Nat) × (Nat → Nat → Int32))) (h : bd_109_2  c2 x1 x2 x3 x4 I = some r) : tt (d + 6) me_109 bk_109_2 [some (.ref 58), some (.int x1), some (.int x2), some (.int x3), some (.int x4)] [] (cw κ cs I J W) (xi r.1) (cw κ (xc cs r.1) r.2 J W) :=
  tt_I (L1 := (bk_109_2.drop 3)) (L2 := bk_109_6) 3 [some (.ref 58), some (.int x1), some (.int x2), some (.int x3), some (.int x4)] [] (cw κ cs I J W) h (fun _ => rfl) (fun h =>
  tt_C (L1 := (bk_109_2.drop 6)) 3 [some (.ref 58), some (.int x1), some (.int x2), some (.int x3), some (.int x4)] [] (cw κ cs I J W) h (fun _ => rfl) (fun _ e => m_119 (d := d + 2) e) fun q1 h =>
  tt_I (L1 := bk_109_5) (L2 := (bk_109_2.drop 7)) 1 [some (.ref 58), some (.int x1), some (.int x2), some (.int x3), some (.int x4)] [] (cw κ cs I J W) h (fun _ => rfl) (fun h =>
  tt_F [some (.ref 58), some (.int x1), some (.int x2), some (.int x3), some (.int x4)] (And.intro rfl (And.intro rfl (And.intro rfl (And.intro rfl (And.intro rfl trivial))))) (tl_109_5 c2 k2 x1 x2 x3 x4 I _ h)) (fun h =>
  tt_C (L1 := (bk_109_2.drop 13)) 6 [some (.ref 58), some (.int x1), some (.int x2), some (.int x3), some (.int x4)] [] (cw κ cs I J W) h (fun _ => rfl) (fun _ e => m_65 (d := d) e) fun q2 h =>
  tt_I (L1 := bk_109_5) (L2 := (bk_109_2.drop 14)) 1 [some (.ref 58), some (.int x1), some (.int x2), some (.int x3), some (.int x4)] [] (cw κ cs q2.2 J W) h (fun _ => rfl) (fun h =>
  tt_F [some (.ref 58), some (.int x1), some (.int x2), some (.int x3), some (.int x4)] (And.intro rfl (And.intro rfl (And.intro rfl (And.intro rfl (And.intro rfl trivial))))) (tl_109_5 c2 k2 x1 x2 x3 x4 q2.2 _ h)) (fun h =>
  tt_I (L1 := (bk_109_2.drop 18)) (L2 := bk_109_3) 4 [some (.ref 58), some (.int x1), some (.int (x2 + (1 : Int32))), some (.int x3), some (.int x4)] [] (cw κ cs q2.2 J W) h (fun _ => rfl) (fun h =>
  tt_J (L1 := bk_109_4) 1 [some (.ref 58), some (.int x1), some (.int (x2 + (1 : Int32))), some (.int x3), some (.int x4)] [.int x4] (cw κ cs q2.2 J W) (fun _ => rfl) (tt_F [some (.ref 58), some (.int x1), some (.int (x2 + (1 : Int32))), none, some (.int x4)] (And.intro rfl (And.intro rfl (And.intro rfl (And.intro rfl trivial)))) (tl_109_4 c2 k2 x1 (x2 + (1 : Int32)) x4 x4 q2.2 _ h))) (fun h =>
  tt_J (L1 := bk_109_4) 0 [some (.ref 58), some (.int x1), some (.int (x2 + (1 : Int32))), some (.int x3), some (.int x4)] [.int x3] (cw κ cs q2.2 J W) (fun _ => rfl) (tt_F [some (.ref 58), some (.int x1), some (.int (x2 + (1 : Int32))), none, some (.int x4)] (And.intro rfl (And.intro rfl (And.intro rfl (And.intro rfl trivial)))) (tl_109_4 c2 k2 x1 (x2 + (1 : Int32)) x4 x3 q2.2 _ h)))))) (fun h =>
  tt_I (L1 := (bk_109_6.drop 2)) (L2 := bk_109_7) 2 [some (.ref 58), some (.int x1), some (.int x2), some (.int x3), some (.int x4)] [] (cw κ cs I J W) h (fun _ => rfl) (fun h =>
  tt_J (L1 := bk_109_8) 1 [some (.ref 58), some (.int x1), some (.int x2), some (.int x3), some (.int x4)] [.int x2] (cw κ cs I J W) (fun _ => rfl) (tt_F [none, none, none, none, none] trivial (tl_109_8  x2 I _ h))) (fun h =>
  tt_J (L1 := bk_109_8) 0 [some (.ref 58), some (.int x1), some (.int x2), some (.int x3), some (.int x4)] [.int x3] (cw κ cs I J W) (fun _ => rfl) (tt_F [none, none, none, none, none] trivial (tl_109_8  x3 I _ h))))
theorem tn_109_2 {d : Nat} {κ : KT} {cs : Nat × Nat} {J : Nat → Nat → Int64} {W : Nat} : ∀ (n : Nat) (x1 : Int32) (x2 : Int32) (x3 : Int32) (x4 : Int32) (I : (Nat → Nat → Int32)) (r : ((Int32 ⊕ Nat) × (Nat → Nat → Int32))), fx (fun _ _ _ _ _ => none) (bd_109_2 ) n x1 x2 x3 x4 I = some r → tt (d + 6) me_109 bk_109_2 [some (.ref 58), some (.int x1), some (.int x2), some (.int x3), some (.int x4)] [] (cw κ cs I J W) (xi r.1) (cw κ (xc cs r.1) r.2 J W)
  | 0 => fun _ _ _ _ _ _ h => nomatch h
  | n + 1 => fun x1 x2 x3 x4 I r h => tb_109_2  (fx _ (bd_109_2 ) n) (tn_109_2  n) x1 x2 x3 x4 I r h
theorem tl_109_2 {d : Nat} {κ : KT} {cs : Nat × Nat} {J : Nat → Nat → Int64} {W : Nat} (x1 : Int32) (x2 : Int32) (x3 : Int32) (x4 : Int32) (I : (Nat → Nat → Int32)) (r : ((Int32 ⊕ Nat) × (Nat → Nat → Int32))) (h : lb_109_2  x1 x2 x3 x4 I = some r) : tt (d + 6) me_109 bk_109_2 [some (.ref 58), some (.int x1), some (.int x2), some (.int x3), some (.int x4)] [] (cw κ cs I J W) (xi r.1) (cw κ (xc cs r.1) r.2 J W) := tn_109_2  FU x1 x2 x3 x4 I r h
theorem tl_109_1 {d : Nat} {κ : KT} {cs : Nat × Nat} {J : Nat → Nat → Int64} {W : Nat} (x1 : Int32) (I : (Nat → Nat → Int32)) (r : ((Int32 ⊕ Nat) × (Nat → Nat → Int32))) (h : lb_109_1  x1 I = some r) : tt (d + 6) me_109 bk_109_1 [some (.ref 58), some (.int x1), none, none, none] [] (cw κ cs I J W) (xi r.1) (cw κ (xc cs r.1) r.2 J W) :=
  tt_J (L1 := bk_109_2) 5 [some (.ref 58), some (.int x1), some (.int (0 : Int32)), some (.int ((-1) : Int32)), some (.int (0 : Int32))] [] (cw κ cs I J W) (fun _ => rfl) (tt_F [some (.ref 58), some (.int x1), some (.int (0 : Int32)), some (.int ((-1) : Int32)), some (.int (0 : Int32))] (And.intro rfl (And.intro rfl (And.intro rfl (And.intro rfl (And.intro rfl trivial))))) (tl_109_2  x1 (0 : Int32) ((-1) : Int32) (0 : Int32) I _ h))
theorem m_109 {d : Nat} {κ : KT} {cs : Nat × Nat} {J : Nat → Nat → Int64} {W : Nat} {x1 : Int32} {I : (Nat → Nat → Int32)} {r : ((Int32 ⊕ Nat) × (Nat → Nat → Int32))} (h : f_109 x1 I = some r) : tm (d + 6) 109 [.ref 58, .int x1] (cw κ cs I J W) (xi r.1) (cw κ (xc cs r.1) r.2 J W) :=
  tm_of me_109 rfl (Nat.le_of_ble_eq_true rfl) (
  tt_I (L1 := bk_109_1) (L2 := (bk_109_0.drop 2)) 2 [some (.ref 58), some (.int x1), none, none, none] [] (cw κ cs I J W) h (fun _ => rfl) (fun h =>
  tt_F [some (.ref 58), some (.int x1), none, none, none] (And.intro rfl (And.intro rfl trivial)) (tl_109_1  x1 I _ h)) (fun h =>
  tt_I (L1 := bk_109_1) (L2 := (bk_109_0.drop 5)) 3 [some (.ref 58), some (.int x1), none, none, none] [] (cw κ cs I J W) h (fun _ => rfl) (fun h =>
  tt_F [some (.ref 58), some (.int x1), none, none, none] (And.intro rfl (And.intro rfl trivial)) (tl_109_1  x1 I _ h)) (fun h =>
  tt_R 1 (fun r => (xi r.1)) (fun r => (cw κ (xc cs r.1) r.2 J W)) h (fun _ => rfl))))
/- 110 -/
def lb_110_1 (I : (Nat → Nat → Int32)) : Option (Int32 ⊕ Nat) :=
  (some (.inr 0))
def lb_110_4 (c3 : Int32 → Int32 → Int32 → Int32 → Int32 → (Nat → Nat → Int32) → Option (Int32 ⊕ Nat)) (x2 : Int32) (x3 : Int32) (x4 : Int32) (x5 : Int32) (x6 : Int32) (I : (Nat → Nat → Int32)) : Option (Int32 ⊕ Nat) :=
  (c3 x2 x3 x4 x5 (x6 + (1 : Int32)) I)
def bd_110_3 (c3 : Int32 → Int32 → Int32 → Int32 → Int32 → (Nat → Nat → Int32) → Option (Int32 ⊕ Nat)) (x2 : Int32) (x3 : Int32) (x4 : Int32) (x5 : Int32) (x6 : Int32) (I : (Nat → Nat → Int32)) : Option (Int32 ⊕ Nat) :=
  (if x6 < x2 then ((f_125 (((((x4 * (1103515245 : Int32)) + (12345 : Int32))).toUInt32 >>> (((16 : Int32)).toUInt32 &&& Int32.toUInt32 31)).toInt32 &&& (32767 : Int32)) (I 79 4) ).bind fun q3 => ((f_55 q3 x3 I).bind fun q4 => (if q4 = (I 79 7) then (lb_110_4 c3 x2 x3 ((x4 * (1103515245 : Int32)) + (12345 : Int32)) (x5 + (1 : Int32)) x6 I) else (lb_110_4 c3 x2 x3 ((x4 * (1103515245 : Int32)) + (12345 : Int32)) x5 x6 I)))) else (some (.inl x5)))
def lb_110_3 : Int32 → Int32 → Int32 → Int32 → Int32 → (Nat → Nat → Int32) → Option (Int32 ⊕ Nat) := fx (fun _ _ _ _ _ _ => none) (bd_110_3 ) FU
def f_110 (x1 : Int32) (x2 : Int32) (x3 : Int32) (I : (Nat → Nat → Int32)) : Option (Int32 ⊕ Nat) :=
  ((f_122 x2 (0 : Int32) (60 : Int32) ).bind fun q1 => (if q1 = 0 then (lb_110_1   I) else ((f_122 x3 (0 : Int32) (60 : Int32) ).bind fun q2 => (if q2 = 0 then (lb_110_1   I) else (lb_110_3  x2 x3 x1 (0 : Int32) (0 : Int32) I)))))
theorem tl_110_1 {d : Nat} {κ : KT} {cs : Nat × Nat} {J : Nat → Nat → Int64} {W : Nat} (I : (Nat → Nat → Int32)) (r : (Int32 ⊕ Nat)) (h : lb_110_1   I = some r) : tt (d + 4) me_110 bk_110_1 [none, none, none, none, none, none, none, none] [] (cw κ cs I J W) (xi r) (cw κ (xc cs r) I J W) :=
  tt_R 1 (fun r => (xi r)) (fun r => (cw κ (xc cs r) I J W)) h (fun _ => rfl)
theorem tl_110_4 {d : Nat} {κ : KT} {cs : Nat × Nat} {J : Nat → Nat → Int64} {W : Nat} (c3 : Int32 → Int32 → Int32 → Int32 → Int32 → (Nat → Nat → Int32) → Option (Int32 ⊕ Nat)) (k3 : ∀ (x2 : Int32) (x3 : Int32) (x4 : Int32) (x5 : Int32) (x6 : Int32) (I : (Nat → Nat → Int32)) (r : (Int32 ⊕ Nat)), c3 x2 x3 x4 x5 x6 I = some r → tt (d + 4) me_110 bk_110_3 [some (.ref 58), none, some (.int x2), some (.int x3), some (.int x4), some (.int x5), some (.int x6), none] [] (cw κ cs I J W) (xi r) (cw κ (xc cs r) I J W)) (x2 : Int32) (x3 : Int32) (x4 : Int32) (x5 : Int32) (x6 : Int32) (I : (Nat → Nat → Int32)) (r : (Int32 ⊕ Nat)) (h : lb_110_4 c3 x2 x3 x4 x5 x6 I = some r) : tt (d + 4) me_110 bk_110_4 [some (.ref 58), none, some (.int x2), some (.int x3), some (.int x4), some (.int x5), some (.int x6), none] [] (cw κ cs I J W) (xi r) (cw κ (xc cs r) I J W) :=
  tt_J (L1 := bk_110_3) 1 [some (.ref 58), none, some (.int x2), some (.int x3), some (.int x4), some (.int x5), some (.int (x6 + (1 : Int32))), none] [] (cw κ cs I J W) (fun _ => rfl) (tt_F [some (.ref 58), none, some (.int x2), some (.int x3), some (.int x4), some (.int x5), some (.int (x6 + (1 : Int32))), none] (And.intro rfl (And.intro rfl (And.intro rfl (And.intro rfl (And.intro rfl (And.intro rfl trivial)))))) (k3 x2 x3 x4 x5 (x6 + (1 : Int32)) I _ h))
theorem tb_110_3 {d : Nat} {κ : KT} {cs : Nat × Nat} {J : Nat → Nat → Int64} {W : Nat} (c3 : Int32 → Int32 → Int32 → Int32 → Int32 → (Nat → Nat → Int32) → Option (Int32 ⊕ Nat)) (k3 : ∀ (x2 : Int32) (x3 : Int32) (x4 : Int32) (x5 : Int32) (x6 : Int32) (I : (Nat → Nat → Int32)) (r : (Int32 ⊕ Nat)), c3 x2 x3 x4 x5 x6 I = some r → tt (d + 4) me_110 bk_110_3 [some (.ref 58), none, some (.int x2), some (.int x3), some (.int x4), some (.int x5), some (.int x6), none] [] (cw κ cs I J W) (xi r) (cw κ (xc cs r) I J W)) (x2 : Int32) (x3 : Int32) (x4 : Int32) (x5 : Int32) (x6 : Int32) (I : (Nat → Nat → Int32)) (r : (Int32 ⊕ Nat)) (h : bd_110_3  c3 x2 x3 x4 x5 x6 I = some r) : tt (d + 4) me_110 bk_110_3 [some (.ref 58), none, some (.int x2), some (.int x3), some (.int x4), some (.int x5), some (.int x6), none] [] (cw κ cs I J W) (xi r) (cw κ (xc cs r) I J W) :=
  tt_I (L1 := (bk_110_3.drop 3)) (L2 := bk_110_5) 3 [some (.ref 58), none, some (.int x2), some (.int x3), some (.int x4), some (.int x5), some (.int x6), none] [] (cw κ cs I J W) h (fun _ => rfl) (fun h =>
  tt_C (L1 := (bk_110_3.drop 18)) 15 [some (.ref 58), none, some (.int x2), some (.int x3), some (.int ((x4 * (1103515245 : Int32)) + (12345 : Int32))), some (.int x5), some (.int x6), none] [] (cw κ cs I J W) h (fun _ => rfl) (fun _ e => m_125 (d := d + 2) e) fun q3 h =>
  tt_C (L1 := (bk_110_3.drop 24)) 6 [some (.ref 58), none, some (.int x2), some (.int x3), some (.int ((x4 * (1103515245 : Int32)) + (12345 : Int32))), some (.int x5), some (.int x6), some (.int q3)] [] (cw κ cs I J W) h (fun _ => rfl) (fun _ e => m_55 (d := d) e) fun q4 h =>
  tt_I (L1 := (bk_110_3.drop 28)) (L2 := bk_110_4) 4 [some (.ref 58), none, some (.int x2), some (.int x3), some (.int ((x4 * (1103515245 : Int32)) + (12345 : Int32))), some (.int x5), some (.int x6), some (.int q3)] [] (cw κ cs I J W) h (fun _ => rfl) (fun h =>
  tt_J (L1 := bk_110_4) 0 [some (.ref 58), none, some (.int x2), some (.int x3), some (.int ((x4 * (1103515245 : Int32)) + (12345 : Int32))), some (.int (x5 + (1 : Int32))), some (.int x6), some (.int q3)] [] (cw κ cs I J W) (fun _ => rfl) (tt_F [some (.ref 58), none, some (.int x2), some (.int x3), some (.int ((x4 * (1103515245 : Int32)) + (12345 : Int32))), some (.int (x5 + (1 : Int32))), some (.int x6), none] (And.intro rfl (And.intro rfl (And.intro rfl (And.intro rfl (And.intro rfl (And.intro rfl trivial)))))) (tl_110_4 c3 k3 x2 x3 ((x4 * (1103515245 : Int32)) + (12345 : Int32)) (x5 + (1 : Int32)) x6 I _ h))) (fun h =>
  tt_F [some (.ref 58), none, some (.int x2), some (.int x3), some (.int ((x4 * (1103515245 : Int32)) + (12345 : Int32))), some (.int x5), some (.int x6), none] (And.intro rfl (And.intro rfl (And.intro rfl (And.intro rfl (And.intro rfl (And.intro rfl trivial)))))) (tl_110_4 c3 k3 x2 x3 ((x4 * (1103515245 : Int32)) + (12345 : Int32)) x5 x6 I _ h))) (fun h =>
  tt_R 2 (fun r => (xi r)) (fun r => (cw κ (xc cs r) I J W)) h (fun _ => rfl))
theorem tn_110_3 {d : Nat} {κ : KT} {cs : Nat × Nat} {J : Nat → Nat → Int64} {W : Nat} : ∀ (n : Nat) (x2 : Int32) (x3 : Int32) (x4 : Int32) (x5 : Int32) (x6 : Int32) (I : (Nat → Nat → Int32)) (r : (Int32 ⊕ Nat)), fx (fun _ _ _ _ _ _ => none) (bd_110_3 ) n x2 x3 x4 x5 x6 I = some r → tt (d + 4) me_110 bk_110_3 [some (.ref 58), none, some (.int x2), some (.int x3), some (.int x4), some (.int x5), some (.int x6), none] [] (cw κ cs I J W) (xi r) (cw κ (xc cs r) I J W)
  | 0 => fun _ _ _ _ _ _ _ h => nomatch h
  | n + 1 => fun x2 x3 x4 x5 x6 I r h => tb_110_3  (fx _ (bd_110_3 ) n) (tn_110_3  n) x2 x3 x4 x5 x6 I r h
theorem tl_110_3 {d : Nat} {κ : KT} {cs : Nat × Nat} {J : Nat → Nat → Int64} {W : Nat} (x2 : Int32) (x3 : Int32) (x4 : Int32) (x5 : Int32) (x6 : Int32) (I : (Nat → Nat → Int32)) (r : (Int32 ⊕ Nat)) (h : lb_110_3  x2 x3 x4 x5 x6 I = some r) : tt (d + 4) me_110 bk_110_3 [some (.ref 58), none, some (.int x2), some (.int x3), some (.int x4), some (.int x5), some (.int x6), none] [] (cw κ cs I J W) (xi r) (cw κ (xc cs r) I J W) := tn_110_3  FU x2 x3 x4 x5 x6 I r h
theorem m_110 {d : Nat} {κ : KT} {cs : Nat × Nat} {J : Nat → Nat → Int64} {W : Nat} {x1 : Int32} {x2 : Int32} {x3 : Int32} {I : (Nat → Nat → Int32)} {r : (Int32 ⊕ Nat)} (h : f_110 x1 x2 x3 I = some r) : tm (d + 4) 110 [.ref 58, .int x1, .int x2, .int x3] (cw κ cs I J W) (xi r) (cw κ (xc cs r) I J W) :=
  tm_of me_110 rfl (Nat.le_of_ble_eq_true rfl) (
  tt_C (L1 := (bk_110_0.drop 4)) 4 [some (.ref 58), some (.int x1), some (.int x2), some (.int x3), none, none, none, none] [] (cw κ cs I J W) h (fun _ => rfl) (fun _ e => m_122 (d := d + 3) e) fun q1 h =>
  tt_I (L1 := bk_110_1) (L2 := (bk_110_0.drop 5)) 1 [some (.ref 58), some (.int x1), some (.int x2), some (.int x3), none, none, none, none] [] (cw κ cs I J W) h (fun _ => rfl) (fun h =>
  tt_F [none, none, none, none, none, none, none, none] trivial (tl_110_1   I _ h)) (fun h =>
  tt_C (L1 := (bk_110_0.drop 9)) 4 [some (.ref 58), some (.int x1), some (.int x2), some (.int x3), none, none, none, none] [] (cw κ cs I J W) h (fun _ => rfl) (fun _ e => m_122 (d := d + 3) e) fun q2 h =>
  tt_I (L1 := bk_110_1) (L2 := bk_110_2) 1 [some (.ref 58), some (.int x1), some (.int x2), some (.int x3), none, none, none, none] [] (cw κ cs I J W) h (fun _ => rfl) (fun h =>
  tt_F [none, none, none, none, none, none, none, none] trivial (tl_110_1   I _ h)) (fun h =>
  tt_J (L1 := bk_110_3) 5 [some (.ref 58), some (.int x1), some (.int x2), some (.int x3), some (.int x1), some (.int (0 : Int32)), some (.int (0 : Int32)), none] [] (cw κ cs I J W) (fun _ => rfl) (tt_F [some (.ref 58), none, some (.int x2), some (.int x3), some (.int x1), some (.int (0 : Int32)), some (.int (0 : Int32)), none] (And.intro rfl (And.intro rfl (And.intro rfl (And.intro rfl (And.intro rfl (And.intro rfl trivial)))))) (tl_110_3  x2 x3 x1 (0 : Int32) (0 : Int32) I _ h)))))
/- 111 -/
def bd_111_5 (c5 : Int32 → Int32 → Int32 → Option (Int32 ⊕ Nat)) (x3 : Int32) (x4 : Int32) (x5 : Int32) : Option (Int32 ⊕ Nat) :=
  (if x5 < (1000 : Int32) then (if x4 < x3 then (c5 x3 (x4 * (3 : Int32)) (x5 + (1 : Int32)) ) else (some (.inl x5))) else (some (.inl ((-1) : Int32))))
def lb_111_5 : Int32 → Int32 → Int32 → Option (Int32 ⊕ Nat) := fx (fun _ _ _ => none) (bd_111_5 ) FU
def lb_111_4 (s0 : Int32) : Option (Int32 ⊕ Nat) :=
  (lb_111_5  s0 (1 : Int32) (0 : Int32) )
def lb_111_2 (x1 : Int32) (x2 : Int32) : Option (Int32 ⊕ Nat) :=
  (if x2 = 0 then (lb_111_4  (((2 : Int32) * x1) + (3 : Int32)) ) else (lb_111_4  x1 ))
def f_111 (x1 : Int32) (x2 : Int32) : Option (Int32 ⊕ Nat) :=
  ((f_122 x1 (1 : Int32) (1000 : Int32) ).bind fun q1 => (if q1 = 0 then (some (.inr 0)) else (if x2 = 0 then (if x1 < (3 : Int32) then (some (.inl ((-1) : Int32))) else (lb_111_2  x1 x2 )) else (lb_111_2  x1 x2 ))))
theorem tb_111_5 {d : Nat} {κ : KT} {cs : Nat × Nat} {I : Nat → Nat → Int32} {J : Nat → Nat → Int64} {W : Nat} (c5 : Int32 → Int32 → Int32 → Option (Int32 ⊕ Nat)) (k5 : ∀ (x3 : Int32) (x4 : Int32) (x5 : Int32) (r : (Int32 ⊕ Nat)), c5 x3 x4 x5  = some r → tt (d + 1) me_111 bk_111_5 [none, none, none, some (.int x3), some (.int x4), some (.int x5)] [] (cw κ cs I J W) (xi r) (cw κ (xc cs r) I J W)) (x3 : Int32) (x4 : Int32) (x5 : Int32) (r : (Int32 ⊕ Nat)) (h : bd_111_5  c5 x3 x4 x5  = some r) : tt (d + 1) me_111 bk_111_5 [none, none, none, some (.int x3), some (.int x4), some (.int x5)] [] (cw κ cs I J W) (xi r) (cw κ (xc cs r) I J W) :=
  tt_I (L1 := (bk_111_5.drop 3)) (L2 := bk_111_7) 3 [none, none, none, some (.int x3), some (.int x4), some (.int x5)] [] (cw κ cs I J W) h (fun _ => rfl) (fun h =>
  tt_I (L1 := bk_111_6) (L2 := (bk_111_5.drop 6)) 3 [none, none, none, some (.int x3), some (.int x4), some (.int x5)] [] (cw κ cs I J W) h (fun _ => rfl) (fun h =>
  tt_J (L1 := bk_111_5) 5 [none, none, none, some (.int x3), some (.int (x4 * (3 : Int32))), some (.int (x5 + (1 : Int32)))] [] (cw κ cs I J W) (fun _ => rfl) (tt_F [none, none, none, some (.int x3), some (.int (x4 * (3 : Int32))), some (.int (x5 + (1 : Int32)))] (And.intro rfl (And.intro rfl (And.intro rfl trivial))) (k5 x3 (x4 * (3 : Int32)) (x5 + (1 : Int32))  _ h))) (fun h =>
  tt_R 2 (fun r => (xi r)) (fun r => (cw κ (xc cs r) I J W)) h (fun _ => rfl))) (fun h =>
  tt_R 2 (fun r => (xi r)) (fun r => (cw κ (xc cs r) I J W)) h (fun _ => rfl))
theorem tn_111_5 {d : Nat} {κ : KT} {cs : Nat × Nat} {I : Nat → Nat → Int32} {J : Nat → Nat → Int64} {W : Nat} : ∀ (n : Nat) (x3 : Int32) (x4 : Int32) (x5 : Int32) (r : (Int32 ⊕ Nat)), fx (fun _ _ _ => none) (bd_111_5 ) n x3 x4 x5  = some r → tt (d + 1) me_111 bk_111_5 [none, none, none, some (.int x3), some (.int x4), some (.int x5)] [] (cw κ cs I J W) (xi r) (cw κ (xc cs r) I J W)
  | 0 => fun _ _ _ _ h => nomatch h
  | n + 1 => fun x3 x4 x5  r h => tb_111_5  (fx _ (bd_111_5 ) n) (tn_111_5  n) x3 x4 x5  r h
theorem tl_111_5 {d : Nat} {κ : KT} {cs : Nat × Nat} {I : Nat → Nat → Int32} {J : Nat → Nat → Int64} {W : Nat} (x3 : Int32) (x4 : Int32) (x5 : Int32) (r : (Int32 ⊕ Nat)) (h : lb_111_5  x3 x4 x5  = some r) : tt (d + 1) me_111 bk_111_5 [none, none, none, some (.int x3), some (.int x4), some (.int x5)] [] (cw κ cs I J W) (xi r) (cw κ (xc cs r) I J W) := tn_111_5  FU x3 x4 x5  r h
theorem tl_111_4 {d : Nat} {κ : KT} {cs : Nat × Nat} {I : Nat → Nat → Int32} {J : Nat → Nat → Int64} {W : Nat} (s0 : Int32) (r : (Int32 ⊕ Nat)) (h : lb_111_4  s0  = some r) : tt (d + 1) me_111 bk_111_4 [none, none, none, none, none, none] [.int s0] (cw κ cs I J W) (xi r) (cw κ (xc cs r) I J W) :=
  tt_J (L1 := bk_111_5) 4 [none, none, none, some (.int s0), some (.int (1 : Int32)), some (.int (0 : Int32))] [] (cw κ cs I J W) (fun _ => rfl) (tt_F [none, none, none, some (.int s0), some (.int (1 : Int32)), some (.int (0 : Int32))] (And.intro rfl (And.intro rfl (And.intro rfl trivial))) (tl_111_5  s0 (1 : Int32) (0 : Int32)  _ h))
theorem tl_111_2 {d : Nat} {κ : KT} {cs : Nat × Nat} {I : Nat → Nat → Int32} {J : Nat → Nat → Int64} {W : Nat} (x1 : Int32) (x2 : Int32) (r : (Int32 ⊕ Nat)) (h : lb_111_2  x1 x2  = some r) : tt (d + 1) me_111 bk_111_2 [none, some (.int x1), some (.int x2), none, none, none] [] (cw κ cs I J W) (xi r) (cw κ (xc cs r) I J W) :=
  tt_I (L1 := bk_111_3) (L2 := (bk_111_2.drop 2)) 2 [none, some (.int x1), some (.int x2), none, none, none] [] (cw κ cs I J W) h (fun _ => rfl) (fun h =>
  tt_J (L1 := bk_111_4) 4 [none, some (.int x1), some (.int x2), none, none, none] [.int (((2 : Int32) * x1) + (3 : Int32))] (cw κ cs I J W) (fun _ => rfl) (tt_F [none, none, none, none, none, none] trivial (tl_111_4  (((2 : Int32) * x1) + (3 : Int32))  _ h))) (fun h =>
  tt_J (L1 := bk_111_4) 1 [none, some (.int x1), some (.int x2), none, none, none] [.int x1] (cw κ cs I J W) (fun _ => rfl) (tt_F [none, none, none, none, none, none] trivial (tl_111_4  x1  _ h)))
theorem m_111 {d : Nat} {κ : KT} {cs : Nat × Nat} {I : Nat → Nat → Int32} {J : Nat → Nat → Int64} {W : Nat} {x1 : Int32} {x2 : Int32} {r : (Int32 ⊕ Nat)} (h : f_111 x1 x2  = some r) : tm (d + 1) 111 [.ref 58, .int x1, .int x2] (cw κ cs I J W) (xi r) (cw κ (xc cs r) I J W) :=
  tm_of me_111 rfl (Nat.le_of_ble_eq_true rfl) (
  tt_C (L1 := (bk_111_0.drop 4)) 4 [some (.ref 58), some (.int x1), some (.int x2), none, none, none] [] (cw κ cs I J W) h (fun _ => rfl) (fun _ e => m_122 (d := d) e) fun q1 h =>
  tt_I (L1 := (bk_111_0.drop 5)) (L2 := bk_111_1) 1 [some (.ref 58), some (.int x1), some (.int x2), none, none, none] [] (cw κ cs I J W) h (fun _ => rfl) (fun h =>
  tt_R 1 (fun r => (xi r)) (fun r => (cw κ (xc cs r) I J W)) h (fun _ => rfl)) (fun h =>
  tt_I (L1 := (bk_111_1.drop 2)) (L2 := bk_111_2) 2 [some (.ref 58), some (.int x1), some (.int x2), none, none, none] [] (cw κ cs I J W) h (fun _ => rfl) (fun h =>
  tt_I (L1 := (bk_111_1.drop 5)) (L2 := bk_111_2) 3 [some (.ref 58), some (.int x1), some (.int x2), none, none, none] [] (cw κ cs I J W) h (fun _ => rfl) (fun h =>
  tt_R 2 (fun r => (xi r)) (fun r => (cw κ (xc cs r) I J W)) h (fun _ => rfl)) (fun h =>
  tt_F [none, some (.int x1), some (.int x2), none, none, none] (And.intro rfl (And.intro rfl trivial)) (tl_111_2  x1 x2  _ h))) (fun h =>
  tt_F [none, some (.int x1), some (.int x2), none, none, none] (And.intro rfl (And.intro rfl trivial)) (tl_111_2  x1 x2  _ h))))
/- 61 -/
def f_61 (I : (Nat → Nat → Int32)) : Option (Nat → Nat → Int32) :=
  (let I1 := cpyf I 88 93 60
  (let I2 := cpyf I1 89 94 60
  (let I3 := cpyf I2 90 95 60
  (let I4 := cpyf I3 91 96 20
  (let I5 := up I4 92 4 (I4 87 4)
  (some I5))))))
theorem m_61 {d : Nat} {κ : KT} {cs : Nat × Nat} {J : Nat → Nat → Int64} {W : Nat} {I : (Nat → Nat → Int32)} {r : (Nat → Nat → Int32)} (h : f_61  I = some r) : tm (d + 2) 61 [.ref 92, .ref 87] (cw κ cs I J W) (.inl none) (cw κ cs r J W) :=
  tm_of me_61 rfl (Nat.le_of_ble_eq_true rfl) (
  let I1 := cpyf I 88 93 60
  tt_K (L1 := (bk_61_0.drop 5)) 5 [some (.ref 92), some (.ref 87)] [] (cw κ cs I J W) (fun _ => rfl) (m_copy 88 60 93 60 (Nat.le_of_ble_eq_true rfl) (Nat.le_of_ble_eq_true rfl) rfl rfl (Nat.le_of_ble_eq_true rfl))
  (let I2 := cpyf I1 89 94 60
  tt_K (L1 := (bk_61_0.drop 10)) 5 [some (.ref 92), some (.ref 87)] [] (cw κ cs I1 J W) (fun _ => rfl) (m_copy 89 60 94 60 (Nat.le_of_ble_eq_true rfl) (Nat.le_of_ble_eq_true rfl) rfl rfl (Nat.le_of_ble_eq_true rfl))
  (let I3 := cpyf I2 90 95 60
  tt_K (L1 := (bk_61_0.drop 15)) 5 [some (.ref 92), some (.ref 87)] [] (cw κ cs I2 J W) (fun _ => rfl) (m_copy 90 60 95 60 (Nat.le_of_ble_eq_true rfl) (Nat.le_of_ble_eq_true rfl) rfl rfl (Nat.le_of_ble_eq_true rfl))
  (let I4 := cpyf I3 91 96 20
  tt_K (L1 := (bk_61_0.drop 20)) 5 [some (.ref 92), some (.ref 87)] [] (cw κ cs I3 J W) (fun _ => rfl) (m_copy 91 20 96 20 (Nat.le_of_ble_eq_true rfl) (Nat.le_of_ble_eq_true rfl) rfl rfl (Nat.le_of_ble_eq_true rfl))
  (let I5 := up I4 92 4 (I4 87 4)
  tt_R 5 (fun r => (.inl none)) (fun r => (cw κ cs r J W)) h (fun _ => rfl))))))
/- 112 -/
def f_112 (I : (Nat → Nat → Int32)) : Option (Nat → Nat → Int32) :=
  ((f_61  I).bind fun q1 => (let I2 := up q1 58 9 (1 : Int32)
  (some I2)))
theorem m_112 {d : Nat} {κ : KT} {cs : Nat × Nat} {J : Nat → Nat → Int64} {W : Nat} {I : (Nat → Nat → Int32)} {r : (Nat → Nat → Int32)} (h : f_112  I = some r) : tm (d + 3) 112 [.ref 58] (cw κ cs I J W) (.inl none) (cw κ cs r J W) :=
  tm_of me_112 rfl (Nat.le_of_ble_eq_true rfl) (
  tt_C (L1 := (bk_112_0.drop 5)) 5 [some (.ref 58)] [] (cw κ cs I J W) h (fun _ => rfl) (fun _ e => m_61 (d := d) e) fun q1 h =>
  let I2 := up q1 58 9 (1 : Int32)
  tt_R 4 (fun r => (.inl none)) (fun r => (cw κ cs r J W)) h (fun _ => rfl))
/- 61 -/
def f_61_87_92 (I : (Nat → Nat → Int32)) : Option (Nat → Nat → Int32) :=
  (let I1 := cpyf I 93 88 60
  (let I2 := cpyf I1 94 89 60
  (let I3 := cpyf I2 95 90 60
  (let I4 := cpyf I3 96 91 20
  (let I5 := up I4 87 4 (I4 92 4)
  (some I5))))))
theorem m_61_87_92 {d : Nat} {κ : KT} {cs : Nat × Nat} {J : Nat → Nat → Int64} {W : Nat} {I : (Nat → Nat → Int32)} {r : (Nat → Nat → Int32)} (h : f_61_87_92  I = some r) : tm (d + 2) 61 [.ref 87, .ref 92] (cw κ cs I J W) (.inl none) (cw κ cs r J W) :=
  tm_of me_61 rfl (Nat.le_of_ble_eq_true rfl) (
  let I1 := cpyf I 93 88 60
  tt_K (L1 := (bk_61_0.drop 5)) 5 [some (.ref 87), some (.ref 92)] [] (cw κ cs I J W) (fun _ => rfl) (m_copy 93 60 88 60 (Nat.le_of_ble_eq_true rfl) (Nat.le_of_ble_eq_true rfl) rfl rfl (Nat.le_of_ble_eq_true rfl))
  (let I2 := cpyf I1 94 89 60
  tt_K (L1 := (bk_61_0.drop 10)) 5 [some (.ref 87), some (.ref 92)] [] (cw κ cs I1 J W) (fun _ => rfl) (m_copy 94 60 89 60 (Nat.le_of_ble_eq_true rfl) (Nat.le_of_ble_eq_true rfl) rfl rfl (Nat.le_of_ble_eq_true rfl))
  (let I3 := cpyf I2 95 90 60
  tt_K (L1 := (bk_61_0.drop 15)) 5 [some (.ref 87), some (.ref 92)] [] (cw κ cs I2 J W) (fun _ => rfl) (m_copy 95 60 90 60 (Nat.le_of_ble_eq_true rfl) (Nat.le_of_ble_eq_true rfl) rfl rfl (Nat.le_of_ble_eq_true rfl))
  (let I4 := cpyf I3 96 91 20
  tt_K (L1 := (bk_61_0.drop 20)) 5 [some (.ref 87), some (.ref 92)] [] (cw κ cs I3 J W) (fun _ => rfl) (m_copy 96 20 91 20 (Nat.le_of_ble_eq_true rfl) (Nat.le_of_ble_eq_true rfl) rfl rfl (Nat.le_of_ble_eq_true rfl))
  (let I5 := up I4 87 4 (I4 92 4)
  tt_R 5 (fun r => (.inl none)) (fun r => (cw κ cs r J W)) h (fun _ => rfl))))))
/- 113 -/
def lb_113_1 (I : (Nat → Nat → Int32)) : Option (Int32 × (Nat → Nat → Int32)) :=
  (if ((I 58 9) = 0 ∨ (I 58 9) = 1) then some ((I 58 9), I) else none)
def f_113 (I : (Nat → Nat → Int32)) : Option (Int32 × (Nat → Nat → Int32)) :=
  (if (I 58 9) = 0 then (lb_113_1   I) else ((f_61_87_92  I).bind fun q1 => (lb_113_1   q1)))
theorem tl_113_1 {d : Nat} {κ : KT} {cs : Nat × Nat} {J : Nat → Nat → Int64} {W : Nat} (I : (Nat → Nat → Int32)) (r : (Int32 × (Nat → Nat → Int32))) (h : lb_113_1   I = some r) : tt (d + 3) me_113 bk_113_1 [some (.ref 58)] [] (cw κ cs I J W) (.inl (some (.int r.1))) (cw κ cs r.2 J W) :=
  tt_B 3 (fun r => (.inl (some (.int r.1)))) (fun r => (cw κ cs r.2 J W)) h (fun q => Or.inr (Or.inl ⟨rfl, q⟩)) (fun _ => rfl)
theorem m_113 {d : Nat} {κ : KT} {cs : Nat × Nat} {J : Nat → Nat → Int64} {W : Nat} {I : (Nat → Nat → Int32)} {r : (Int32 × (Nat → Nat → Int32))} (h : f_113  I = some r) : tm (d + 3) 113 [.ref 58] (cw κ cs I J W) (.inl (some (.int r.1))) (cw κ cs r.2 J W) :=
  tm_of me_113 rfl (Nat.le_of_ble_eq_true rfl) (
  tt_I (L1 := bk_113_1) (L2 := (bk_113_0.drop 3)) 3 [some (.ref 58)] [] (cw κ cs I J W) h (fun _ => rfl) (fun h =>
  tt_F [some (.ref 58)] (And.intro rfl trivial) (tl_113_1   I _ h)) (fun h =>
  tt_C (L1 := bk_113_1) 5 [some (.ref 58)] [] (cw κ cs I J W) h (fun _ => rfl) (fun _ e => m_61_87_92 (d := d) e) fun q1 h =>
  tt_F [some (.ref 58)] (And.intro rfl trivial) (tl_113_1   q1 _ h)))
/- 131 -/
def f_131 (I : (Nat → Nat → Int32)) : Option Int32 :=
  (some (I 97 0))
theorem m_131 {d : Nat} {κ : KT} {cs : Nat × Nat} {J : Nat → Nat → Int64} {W : Nat} {I : (Nat → Nat → Int32)} {r : Int32} (h : f_131  I = some r) : tm d 131 [.ref 97] (cw (km κ) cs I J W) (.inl (some (.int r))) (cw (km κ) cs I J W) :=
  tm_of me_131 rfl (Nat.le_of_ble_eq_true rfl) (
  tt_R 3 (fun r => (.inl (some (.int r)))) (fun r => (cw (km κ) cs I J W)) h (fun _ => rfl))
/- 132 -/
def lb_132_3 (s0 : Int32) (I : (Nat → Nat → Int32)) : Option (Int32 × (Nat → Nat → Int32)) :=
  (if (s0 = 0 ∨ s0 = 1) then some (s0, I) else none)
def lb_132_1 (I : (Nat → Nat → Int32)) : Option (Int32 × (Nat → Nat → Int32)) :=
  (if (I 97 0) = 0 then (lb_132_3  (1 : Int32) I) else (lb_132_3  (0 : Int32) I))
def f_132 (x1 : Int32) (x2 : Int32) (I : (Nat → Nat → Int32)) : Option (Int32 × (Nat → Nat → Int32)) :=
  (if (I 97 0) = 0 then (if x1 = 0 then (let I1 := up I 97 0 x2
  (lb_132_1   I1)) else (lb_132_1   I)) else (lb_132_1   I))
theorem tl_132_3 {d : Nat} {κ : KT} {cs : Nat × Nat} {J : Nat → Nat → Int64} {W : Nat} (s0 : Int32) (I : (Nat → Nat → Int32)) (r : (Int32 × (Nat → Nat → Int32))) (h : lb_132_3  s0 I = some r) : tt d me_132 bk_132_3 [none, none, none] [.int s0] (cw (km κ) cs I J W) (.inl (some (.int r.1))) (cw (km κ) cs r.2 J W) :=
  tt_B 1 (fun r => (.inl (some (.int r.1)))) (fun r => (cw (km κ) cs r.2 J W)) h (fun q => Or.inr (Or.inl ⟨rfl, q⟩)) (fun _ => rfl)
theorem tl_132_1 {d : Nat} {κ : KT} {cs : Nat × Nat} {J : Nat → Nat → Int64} {W : Nat} (I : (Nat → Nat → Int32)) (r : (Int32 × (Nat → Nat → Int32))) (h : lb_132_1   I = some r) : tt d me_132 bk_132_1 [some (.ref 97), none, none] [] (cw (km κ) cs I J W) (.inl (some (.int r.1))) (cw (km κ) cs r.2 J W) :=
  tt_I (L1 := (bk_132_1.drop 3)) (L2 := bk_132_2) 3 [some (.ref 97), none, none] [] (cw (km κ) cs I J W) h (fun _ => rfl) (fun h =>
  tt_J (L1 := bk_132_3) 1 [some (.ref 97), none, none] [.int (1 : Int32)] (cw (km κ) cs I J W) (fun _ => rfl) (tt_F [none, none, none] trivial (tl_132_3  (1 : Int32) I _ h))) (fun h =>
  tt_J (L1 := bk_132_3) 0 [some (.ref 97), none, none] [.int (0 : Int32)] (cw (km κ) cs I J W) (fun _ => rfl) (tt_F [none, none, none] trivial (tl_132_3  (0 : Int32) I _ h)))
theorem m_132 {d : Nat} {κ : KT} {cs : Nat × Nat} {J : Nat → Nat → Int64} {W : Nat} {x1 : Int32} {x2 : Int32} {I : (Nat → Nat → Int32)} {r : (Int32 × (Nat → Nat → Int32))} (h : f_132 x1 x2 I = some r) : tm d 132 [.ref 97, .int x1, .int x2] (cw (km κ) cs I J W) (.inl (some (.int r.1))) (cw (km κ) cs r.2 J W) :=
  tm_of me_132 rfl (Nat.le_of_ble_eq_true rfl) (
  tt_I (L1 := (bk_132_0.drop 3)) (L2 := bk_132_1) 3 [some (.ref 97), some (.int x1), some (.int x2)] [] (cw (km κ) cs I J W) h (fun _ => rfl) (fun h =>
  tt_I (L1 := (bk_132_0.drop 5)) (L2 := bk_132_1) 2 [some (.ref 97), some (.int x1), some (.int x2)] [] (cw (km κ) cs I J W) h (fun _ => rfl) (fun h =>
  let I1 := up I 97 0 x2
  tt_J (L1 := bk_132_1) 2 [some (.ref 97), some (.int x1), some (.int x2)] [] (cw (km κ) cs I1 J W) (fun _ => rfl) (tt_F [some (.ref 97), none, none] (And.intro rfl trivial) (tl_132_1   I1 _ h))) (fun h =>
  tt_F [some (.ref 97), none, none] (And.intro rfl trivial) (tl_132_1   I _ h))) (fun h =>
  tt_F [some (.ref 97), none, none] (And.intro rfl trivial) (tl_132_1   I _ h)))
/- 133 -/
def lb_133_2 (s0 : Int32) : Option Int32 :=
  (if (s0 = 0 ∨ s0 = 1) then some s0 else none)
def lb_133_1 : Option Int32 :=
  (lb_133_2  (0 : Int32) )
def f_133 (x0 : Int32) (x1 : Int32) (x2 : Int32) : Option Int32 :=
  (if x0 < x1 then (lb_133_1   ) else (if x2 < x0 then (lb_133_1   ) else (lb_133_2  (1 : Int32) )))
theorem tl_133_2 {d : Nat} {κ : KT} {cs : Nat × Nat} {I : Nat → Nat → Int32} {J : Nat → Nat → Int64} {W : Nat} (s0 : Int32) (r : Int32) (h : lb_133_2  s0  = some r) : tt d me_133 bk_133_2 [none, none, none] [.int s0] (cw (km κ) cs I J W) (.inl (some (.int r))) (cw (km κ) cs I J W) :=
  tt_B 1 (fun r => (.inl (some (.int r)))) (fun r => (cw (km κ) cs I J W)) h (fun q => Or.inr (Or.inl ⟨rfl, q⟩)) (fun _ => rfl)
theorem tl_133_1 {d : Nat} {κ : KT} {cs : Nat × Nat} {I : Nat → Nat → Int32} {J : Nat → Nat → Int64} {W : Nat} (r : Int32) (h : lb_133_1    = some r) : tt d me_133 bk_133_1 [none, none, none] [] (cw (km κ) cs I J W) (.inl (some (.int r))) (cw (km κ) cs I J W) :=
  tt_J (L1 := bk_133_2) 0 [none, none, none] [.int (0 : Int32)] (cw (km κ) cs I J W) (fun _ => rfl) (tt_F [none, none, none] trivial (tl_133_2  (0 : Int32)  _ h))
theorem m_133 {d : Nat} {κ : KT} {cs : Nat × Nat} {I : Nat → Nat → Int32} {J : Nat → Nat → Int64} {W : Nat} {x0 : Int32} {x1 : Int32} {x2 : Int32} {r : Int32} (h : f_133 x0 x1 x2  = some r) : tm d 133 [.int x0, .int x1, .int x2] (cw (km κ) cs I J W) (.inl (some (.int r))) (cw (km κ) cs I J W) :=
  tm_of me_133 rfl (Nat.le_of_ble_eq_true rfl) (
  tt_I (L1 := bk_133_1) (L2 := (bk_133_0.drop 3)) 3 [some (.int x0), some (.int x1), some (.int x2)] [] (cw (km κ) cs I J W) h (fun _ => rfl) (fun h =>
  tt_F [none, none, none] trivial (tl_133_1    _ h)) (fun h =>
  tt_I (L1 := bk_133_1) (L2 := (bk_133_0.drop 6)) 3 [some (.int x0), some (.int x1), some (.int x2)] [] (cw (km κ) cs I J W) h (fun _ => rfl) (fun h =>
  tt_F [none, none, none] trivial (tl_133_1    _ h)) (fun h =>
  tt_J (L1 := bk_133_2) 1 [some (.int x0), some (.int x1), some (.int x2)] [.int (1 : Int32)] (cw (km κ) cs I J W) (fun _ => rfl) (tt_F [none, none, none] trivial (tl_133_2  (1 : Int32)  _ h)))))
/- 136 -/
def bd_136_1 (c1 : Int32 → Int32 → (Nat → Nat → Int32) → Option (Nat → Nat → Int32)) (x1 : Int32) (x2 : Int32) (I : (Nat → Nat → Int32)) : Option (Nat → Nat → Int32) :=
  (if x2 < 0 then (some I) else (if ex_in (I 97 11) 500 then let I1 := up I 102 ((I 97 11)).toNatClampNeg ((x1 >>> (x2 &&& 31)) &&& (255 : Int32))
  (let I2 := up I1 97 11 ((I1 97 11) + (1 : Int32))
  (c1 x1 (x2 + ((-8) : Int32)) I2)) else none))
def lb_136_1 : Int32 → Int32 → (Nat → Nat → Int32) → Option (Nat → Nat → Int32) := fx (fun _ _ _ => none) (bd_136_1 ) FU
def f_136 (x1 : Int32) (I : (Nat → Nat → Int32)) : Option (Nat → Nat → Int32) :=
  (lb_136_1  x1 (24 : Int32) I)
theorem tb_136_1 {d : Nat} {κ : KT} {cs : Nat × Nat} {J : Nat → Nat → Int64} {W : Nat} (c1 : Int32 → Int32 → (Nat → Nat → Int32) → Option (Nat → Nat → Int32)) (k1 : ∀ (x1 : Int32) (x2 : Int32) (I : (Nat → Nat → Int32)) (r : (Nat → Nat → Int32)), c1 x1 x2 I = some r → tt d me_136 bk_136_1 [some (.ref 97), some (.int x1), some (.int x2)] [] (cw (km κ) cs I J W) (.inl none) (cw (km κ) cs r J W)) (x1 : Int32) (x2 : Int32) (I : (Nat → Nat → Int32)) (r : (Nat → Nat → Int32)) (h : bd_136_1  c1 x1 x2 I = some r) : tt d me_136 bk_136_1 [some (.ref 97), some (.int x1), some (.int x2)] [] (cw (km κ) cs I J W) (.inl none) (cw (km κ) cs r J W) :=
  tt_I (L1 := bk_136_2) (L2 := (bk_136_1.drop 2)) 2 [some (.ref 97), some (.int x1), some (.int x2)] [] (cw (km κ) cs I J W) h (fun _ => rfl) (fun h =>
  tt_R 1 (fun r => (.inl none)) (fun r => (cw (km κ) cs r J W)) h (fun _ => rfl)) (fun h =>
  let I1 := up I 102 ((I 97 11)).toNatClampNeg ((x1 >>> (x2 &&& 31)) &&& (255 : Int32))
  tt_J (L1 := (bk_136_1.drop 11)) 8 [some (.ref 97), some (.int x1), some (.int x2)] [.int ((x1 >>> (x2 &&& 31)) &&& (255 : Int32)), .int (I 97 11), .ref 102] (cw (km κ) cs I J W) (fun _ => rfl) (
  tt_Wi rfl (Nat.le_of_ble_eq_true rfl) h fun h =>
  let I2 := up I1 97 11 ((I1 97 11) + (1 : Int32))
  tt_J (L1 := bk_136_1) 7 [some (.ref 97), some (.int x1), some (.int (x2 + ((-8) : Int32)))] [] (cw (km κ) cs I2 J W) (fun _ => rfl) (tt_F [some (.ref 97), some (.int x1), some (.int (x2 + ((-8) : Int32)))] (And.intro rfl (And.intro rfl (And.intro rfl trivial))) (k1 x1 (x2 + ((-8) : Int32)) I2 _ h))))
theorem tn_136_1 {d : Nat} {κ : KT} {cs : Nat × Nat} {J : Nat → Nat → Int64} {W : Nat} : ∀ (n : Nat) (x1 : Int32) (x2 : Int32) (I : (Nat → Nat → Int32)) (r : (Nat → Nat → Int32)), fx (fun _ _ _ => none) (bd_136_1 ) n x1 x2 I = some r → tt d me_136 bk_136_1 [some (.ref 97), some (.int x1), some (.int x2)] [] (cw (km κ) cs I J W) (.inl none) (cw (km κ) cs r J W)
  | 0 => fun _ _ _ _ h => nomatch h
  | n + 1 => fun x1 x2 I r h => tb_136_1  (fx _ (bd_136_1 ) n) (tn_136_1  n) x1 x2 I r h
theorem tl_136_1 {d : Nat} {κ : KT} {cs : Nat × Nat} {J : Nat → Nat → Int64} {W : Nat} (x1 : Int32) (x2 : Int32) (I : (Nat → Nat → Int32)) (r : (Nat → Nat → Int32)) (h : lb_136_1  x1 x2 I = some r) : tt d me_136 bk_136_1 [some (.ref 97), some (.int x1), some (.int x2)] [] (cw (km κ) cs I J W) (.inl none) (cw (km κ) cs r J W) := tn_136_1  FU x1 x2 I r h
theorem m_136 {d : Nat} {κ : KT} {cs : Nat × Nat} {J : Nat → Nat → Int64} {W : Nat} {x1 : Int32} {I : (Nat → Nat → Int32)} {r : (Nat → Nat → Int32)} (h : f_136 x1 I = some r) : tm d 136 [.ref 97, .int x1] (cw (km κ) cs I J W) (.inl none) (cw (km κ) cs r J W) :=
  tm_of me_136 rfl (Nat.le_of_ble_eq_true rfl) (
  tt_J (L1 := bk_136_1) 1 [some (.ref 97), some (.int x1), some (.int (24 : Int32))] [] (cw (km κ) cs I J W) (fun _ => rfl) (tt_F [some (.ref 97), some (.int x1), some (.int (24 : Int32))] (And.intro rfl (And.intro rfl (And.intro rfl trivial))) (tl_136_1  x1 (24 : Int32) I _ h)))
/- 135 -/
def f_135 (x1 : Int32) (x2 : Int32) (x3 : Int32) (x4 : Int32) (x5 : Int32) (I : (Nat → Nat → Int32)) : Option (Int32 × (Nat → Nat → Int32)) :=
  (let I1 := up I 97 0 (0 : Int32)
  (if (500 : Int32) < ((I1 97 11) + (20 : Int32)) then (some (((-1) : Int32), I1)) else ((f_136 x1 I1).bind fun q2 => ((f_136 x2 q2).bind fun q3 => ((f_136 x3 q3).bind fun q4 => ((f_136 x4 q4).bind fun q5 => ((f_136 x5 q5).bind fun q6 => (some ((q6 97 11), q6)))))))))
theorem m_135 {d : Nat} {κ : KT} {cs : Nat × Nat} {J : Nat → Nat → Int64} {W : Nat} {x1 : Int32} {x2 : Int32} {x3 : Int32} {x4 : Int32} {x5 : Int32} {I : (Nat → Nat → Int32)} {r : (Int32 × (Nat → Nat → Int32))} (h : f_135 x1 x2 x3 x4 x5 I = some r) : tm (d + 1) 135 [.ref 97, .int x1, .int x2, .int x3, .int x4, .int x5] (cw (km κ) cs I J W) (.inl (some (.int r.1))) (cw (km κ) cs r.2 J W) :=
  tm_of me_135 rfl (Nat.le_of_ble_eq_true rfl) (
  let I1 := up I 97 0 (0 : Int32)
  tt_I (L1 := (bk_135_0.drop 9)) (L2 := bk_135_1) 9 [some (.ref 97), some (.int x1), some (.int x2), some (.int x3), some (.int x4), some (.int x5)] [] (cw (km κ) cs I1 J W) h (fun _ => rfl) (fun h =>
  tt_R 2 (fun r => (.inl (some (.int r.1)))) (fun r => (cw (km κ) cs r.2 J W)) h (fun _ => rfl)) (fun h =>
  tt_C (L1 := (bk_135_1.drop 3)) 3 [some (.ref 97), some (.int x1), some (.int x2), some (.int x3), some (.int x4), some (.int x5)] [] (cw (km κ) cs I1 J W) h (fun _ => rfl) (fun _ e => m_136 (d := d) e) fun q2 h =>
  tt_C (L1 := (bk_135_1.drop 6)) 3 [some (.ref 97), some (.int x1), some (.int x2), some (.int x3), some (.int x4), some (.int x5)] [] (cw (km κ) cs q2 J W) h (fun _ => rfl) (fun _ e => m_136 (d := d) e) fun q3 h =>
  tt_C (L1 := (bk_135_1.drop 9)) 3 [some (.ref 97), some (.int x1), some (.int x2), some (.int x3), some (.int x4), some (.int x5)] [] (cw (km κ) cs q3 J W) h (fun _ => rfl) (fun _ e => m_136 (d := d) e) fun q4 h =>
  tt_C (L1 := (bk_135_1.drop 12)) 3 [some (.ref 97), some (.int x1), some (.int x2), some (.int x3), some (.int x4), some (.int x5)] [] (cw (km κ) cs q4 J W) h (fun _ => rfl) (fun _ e => m_136 (d := d) e) fun q5 h =>
  tt_C (L1 := (bk_135_1.drop 15)) 3 [some (.ref 97), some (.int x1), some (.int x2), some (.int x3), some (.int x4), some (.int x5)] [] (cw (km κ) cs q5 J W) h (fun _ => rfl) (fun _ e => m_136 (d := d) e) fun q6 h =>
  tt_R 3 (fun r => (.inl (some (.int r.1)))) (fun r => (cw (km κ) cs r.2 J W)) h (fun _ => rfl)))
/- 137 -/
def lb_137_2 (s0 : Int32) (I : (Nat → Nat → Int32)) : Option Int32 :=
  (some s0)
def f_137 (x1 : Int32) (I : (Nat → Nat → Int32)) : Option Int32 :=
  (if x1 < (I 97 15) then (if ex_in x1 500 then (lb_137_2  (I 102 (x1).toNatClampNeg) I) else none) else (lb_137_2  (0 : Int32) I))
theorem tl_137_2 {d : Nat} {κ : KT} {cs : Nat × Nat} {J : Nat → Nat → Int64} {W : Nat} (s0 : Int32) (I : (Nat → Nat → Int32)) (r : Int32) (h : lb_137_2  s0 I = some r) : tt d me_137 bk_137_2 [none, none] [.int s0] (cw (km κ) cs I J W) (.inl (some (.int r))) (cw (km κ) cs I J W) :=
  tt_R 1 (fun r => (.inl (some (.int r)))) (fun r => (cw (km κ) cs I J W)) h (fun _ => rfl)
theorem m_137 {d : Nat} {κ : KT} {cs : Nat × Nat} {J : Nat → Nat → Int64} {W : Nat} {x1 : Int32} {I : (Nat → Nat → Int32)} {r : Int32} (h : f_137 x1 I = some r) : tm d 137 [.ref 97, .int x1] (cw (km κ) cs I J W) (.inl (some (.int r))) (cw (km κ) cs I J W) :=
  tm_of me_137 rfl (Nat.le_of_ble_eq_true rfl) (
  tt_I (L1 := (bk_137_0.drop 4)) (L2 := bk_137_1) 4 [some (.ref 97), some (.int x1)] [] (cw (km κ) cs I J W) h (fun _ => rfl) (fun h =>
  tt_J (L1 := (bk_137_0.drop 7)) 2 [some (.ref 97), some (.int x1)] [.int x1, .ref 102] (cw (km κ) cs I J W) (fun _ => rfl) (
  tt_Qi rfl h fun h =>
  tt_J (L1 := bk_137_2) 0 [some (.ref 97), some (.int x1)] [.int (I 102 (x1).toNatClampNeg)] (cw (km κ) cs I J W) (fun _ => rfl) (tt_F [none, none] trivial (tl_137_2  (I 102 (x1).toNatClampNeg) I _ h)))) (fun h =>
  tt_J (L1 := bk_137_2) 0 [some (.ref 97), some (.int x1)] [.int (0 : Int32)] (cw (km κ) cs I J W) (fun _ => rfl) (tt_F [none, none] trivial (tl_137_2  (0 : Int32) I _ h))))
/- 138 -/
def lb_138_2 (s0 : Int32) : Option Int32 :=
  (if (s0 = 0 ∨ s0 = 1) then some s0 else none)
def lb_138_1 : Option Int32 :=
  (lb_138_2  (0 : Int32) )
def f_138 (x0 : Int32) : Option Int32 :=
  (if x0 < (97 : Int32) then (lb_138_1   ) else (if (122 : Int32) < x0 then (lb_138_1   ) else (lb_138_2  (1 : Int32) )))
theorem tl_138_2 {d : Nat} {κ : KT} {cs : Nat × Nat} {I : Nat → Nat → Int32} {J : Nat → Nat → Int64} {W : Nat} (s0 : Int32) (r : Int32) (h : lb_138_2  s0  = some r) : tt d me_138 bk_138_2 [none] [.int s0] (cw (km κ) cs I J W) (.inl (some (.int r))) (cw (km κ) cs I J W) :=
  tt_B 1 (fun r => (.inl (some (.int r)))) (fun r => (cw (km κ) cs I J W)) h (fun q => Or.inr (Or.inl ⟨rfl, q⟩)) (fun _ => rfl)
theorem tl_138_1 {d : Nat} {κ : KT} {cs : Nat × Nat} {I : Nat → Nat → Int32} {J : Nat → Nat → Int64} {W : Nat} (r : Int32) (h : lb_138_1    = some r) : tt d me_138 bk_138_1 [none] [] (cw (km κ) cs I J W) (.inl (some (.int r))) (cw (km κ) cs I J W) :=
  tt_J (L1 := bk_138_2) 0 [none] [.int (0 : Int32)] (cw (km κ) cs I J W) (fun _ => rfl) (tt_F [none] trivial (tl_138_2  (0 : Int32)  _ h))
theorem m_138 {d : Nat} {κ : KT} {cs : Nat × Nat} {I : Nat → Nat → Int32} {J : Nat → Nat → Int64} {W : Nat} {x0 : Int32} {r : Int32} (h : f_138 x0  = some r) : tm d 138 [.int x0] (cw (km κ) cs I J W) (.inl (some (.int r))) (cw (km κ) cs I J W) :=
  tm_of me_138 rfl (Nat.le_of_ble_eq_true rfl) (
  tt_I (L1 := bk_138_1) (L2 := (bk_138_0.drop 3)) 3 [some (.int x0)] [] (cw (km κ) cs I J W) h (fun _ => rfl) (fun h =>
  tt_F [none] trivial (tl_138_1    _ h)) (fun h =>
  tt_I (L1 := bk_138_1) (L2 := (bk_138_0.drop 6)) 3 [some (.int x0)] [] (cw (km κ) cs I J W) h (fun _ => rfl) (fun h =>
  tt_F [none] trivial (tl_138_1    _ h)) (fun h =>
  tt_J (L1 := bk_138_2) 1 [some (.int x0)] [.int (1 : Int32)] (cw (km κ) cs I J W) (fun _ => rfl) (tt_F [none] trivial (tl_138_2  (1 : Int32)  _ h)))))
/- 139 -/
def lb_139_2 (s0 : Int32) : Option Int32 :=
  (if (s0 = 0 ∨ s0 = 1) then some s0 else none)
def lb_139_1 : Option Int32 :=
  (lb_139_2  (0 : Int32) )
def f_139 (x0 : Int32) : Option Int32 :=
  (if x0 < (48 : Int32) then (lb_139_1   ) else (if (57 : Int32) < x0 then (lb_139_1   ) else (lb_139_2  (1 : Int32) )))
theorem tl_139_2 {d : Nat} {κ : KT} {cs : Nat × Nat} {I : Nat → Nat → Int32} {J : Nat → Nat → Int64} {W : Nat} (s0 : Int32) (r : Int32) (h : lb_139_2  s0  = some r) : tt d me_139 bk_139_2 [none] [.int s0] (cw (km κ) cs I J W) (.inl (some (.int r))) (cw (km κ) cs I J W) :=
  tt_B 1 (fun r => (.inl (some (.int r)))) (fun r => (cw (km κ) cs I J W)) h (fun q => Or.inr (Or.inl ⟨rfl, q⟩)) (fun _ => rfl)
theorem tl_139_1 {d : Nat} {κ : KT} {cs : Nat × Nat} {I : Nat → Nat → Int32} {J : Nat → Nat → Int64} {W : Nat} (r : Int32) (h : lb_139_1    = some r) : tt d me_139 bk_139_1 [none] [] (cw (km κ) cs I J W) (.inl (some (.int r))) (cw (km κ) cs I J W) :=
  tt_J (L1 := bk_139_2) 0 [none] [.int (0 : Int32)] (cw (km κ) cs I J W) (fun _ => rfl) (tt_F [none] trivial (tl_139_2  (0 : Int32)  _ h))
theorem m_139 {d : Nat} {κ : KT} {cs : Nat × Nat} {I : Nat → Nat → Int32} {J : Nat → Nat → Int64} {W : Nat} {x0 : Int32} {r : Int32} (h : f_139 x0  = some r) : tm d 139 [.int x0] (cw (km κ) cs I J W) (.inl (some (.int r))) (cw (km κ) cs I J W) :=
  tm_of me_139 rfl (Nat.le_of_ble_eq_true rfl) (
  tt_I (L1 := bk_139_1) (L2 := (bk_139_0.drop 3)) 3 [some (.int x0)] [] (cw (km κ) cs I J W) h (fun _ => rfl) (fun h =>
  tt_F [none] trivial (tl_139_1    _ h)) (fun h =>
  tt_I (L1 := bk_139_1) (L2 := (bk_139_0.drop 6)) 3 [some (.int x0)] [] (cw (km κ) cs I J W) h (fun _ => rfl) (fun h =>
  tt_F [none] trivial (tl_139_1    _ h)) (fun h =>
  tt_J (L1 := bk_139_2) 1 [some (.int x0)] [.int (1 : Int32)] (cw (km κ) cs I J W) (fun _ => rfl) (tt_F [none] trivial (tl_139_2  (1 : Int32)  _ h)))))
/- 140 -/
def lb_140_15 (I : (Nat → Nat → Int32)) (J : (Nat → Nat → Int64)) : Option ((Nat → Nat → Int32) × (Nat → Nat → Int64)) :=
  (let I10 := up I 97 19 ((I 97 16) - (I 97 18))
  (some (I10, J)))
def lb_140_14 (s1 : Int32) (I : (Nat → Nat → Int32)) (J : (Nat → Nat → Int64)) : Option ((Nat → Nat → Int32) × (Nat → Nat → Int64)) :=
  (let I9 := up I 97 17 s1
  (lb_140_15   I9 J))
def lb_140_12 (I : (Nat → Nat → Int32)) (J : (Nat → Nat → Int64)) : Option ((Nat → Nat → Int32) × (Nat → Nat → Int64)) :=
  (lb_140_14  (3 : Int32) I J)
def lb_140_9 (c8 : (Nat → Nat → Int32) → (Nat → Nat → Int64) → Option ((Nat → Nat → Int32) × (Nat → Nat → Int64))) (I : (Nat → Nat → Int32)) (J : (Nat → Nat → Int64)) : Option ((Nat → Nat → Int32) × (Nat → Nat → Int64)) :=
  (let I14 := up I 97 16 ((I 97 16) + (1 : Int32))
  (c8  I14 J))
def bd_140_8 (c8 : (Nat → Nat → Int32) → (Nat → Nat → Int64) → Option ((Nat → Nat → Int32) × (Nat → Nat → Int64))) (I : (Nat → Nat → Int32)) (J : (Nat → Nat → Int64)) : Option ((Nat → Nat → Int32) × (Nat → Nat → Int64)) :=
  ((f_137 (I 97 16) I).bind fun q11 => ((f_139 q11 ).bind fun q12 => (if q12 = 0 then (let I13 := up I 97 17 (2 : Int32)
  (lb_140_15   I13 J)) else (if ((I 97 16) - (I 97 18)) < (4 : Int32) then ((f_137 (I 97 16) I).bind fun q15 => (let I16 := up I 97 20 ((((10 : Int32) * (I 97 20)) + q15) - (48 : Int32))
  (lb_140_9 c8  I16 J))) else (lb_140_9 c8  I J)))))
def lb_140_8 : (Nat → Nat → Int32) → (Nat → Nat → Int64) → Option ((Nat → Nat → Int32) × (Nat → Nat → Int64)) := fx (fun _ _ => none) (bd_140_8 ) FU
def lb_140_5 (c4 : (Nat → Nat → Int32) → (Nat → Nat → Int64) → Option ((Nat → Nat → Int32) × (Nat → Nat → Int64))) (I : (Nat → Nat → Int32)) (J : (Nat → Nat → Int64)) : Option ((Nat → Nat → Int32) × (Nat → Nat → Int64)) :=
  (let I20 := up I 97 16 ((I 97 16) + (1 : Int32))
  (c4  I20 J))
def bd_140_4 (c4 : (Nat → Nat → Int32) → (Nat → Nat → Int64) → Option ((Nat → Nat → Int32) × (Nat → Nat → Int64))) (I : (Nat → Nat → Int32)) (J : (Nat → Nat → Int64)) : Option ((Nat → Nat → Int32) × (Nat → Nat → Int64)) :=
  ((f_137 (I 97 16) I).bind fun q17 => ((f_138 q17 ).bind fun q18 => (if q18 = 0 then (let I19 := up I 97 17 (1 : Int32)
  (lb_140_15   I19 J)) else (if ((I 97 16) - (I 97 18)) < (5 : Int32) then ((f_137 (I 97 16) I).bind fun q21 => (let J22 := up J 97 22 (((J 97 22) <<< (((5 : Int32)).toInt64 &&& 63)) ||| ((q21 - (96 : Int32))).toInt64)
  (lb_140_5 c4  I J22))) else (lb_140_5 c4  I J)))))
def lb_140_4 : (Nat → Nat → Int32) → (Nat → Nat → Int64) → Option ((Nat → Nat → Int32) × (Nat → Nat → Int64)) := fx (fun _ _ => none) (bd_140_4 ) FU
def lb_140_2 (I : (Nat → Nat → Int32)) (J : (Nat → Nat → Int64)) : Option ((Nat → Nat → Int32) × (Nat → Nat → Int64)) :=
  (let I1 := up I 97 18 (I 97 16)
  (let J2 := up J 97 22 (0 : Int64)
  (let I3 := up I1 97 20 (0 : Int32)
  ((f_137 (I3 97 16) I3).bind fun q4 => (let I5 := up I3 97 21 q4
  (if (I5 97 16) < (I5 97 15) then ((f_138 q4 ).bind fun q6 => (if q6 = 0 then ((f_139 q4 ).bind fun q7 => (if q7 = 0 then (let I8 := up I5 97 16 ((I5 97 16) + (1 : Int32))
  (if q4 = (59 : Int32) then (lb_140_12   I8 J2) else (if q4 = (40 : Int32) then (lb_140_12   I8 J2) else (if q4 = (41 : Int32) then (lb_140_12   I8 J2) else (if q4 = (43 : Int32) then (lb_140_12   I8 J2) else (if q4 = (45 : Int32) then (lb_140_12   I8 J2) else (if q4 = (42 : Int32) then (lb_140_12   I8 J2) else (if q4 = (47 : Int32) then (lb_140_12   I8 J2) else (if q4 = (60 : Int32) then (lb_140_12   I8 J2) else (if q4 = (61 : Int32) then (lb_140_12   I8 J2) else (lb_140_14  (4 : Int32) I8 J2))))))))))) else (lb_140_8   I5 J2))) else (lb_140_4   I5 J2))) else (let I23 := up I5 97 17 (0 : Int32)
  (lb_140_15   I23 J2))))))))
def lb_140_1 (c0 : (Nat → Nat → Int32) → (Nat → Nat → Int64) → Option ((Nat → Nat → Int32) × (Nat → Nat → Int64))) (I : (Nat → Nat → Int32)) (J : (Nat → Nat → Int64)) : Option ((Nat → Nat → Int32) × (Nat → Nat → Int64)) :=
  (let I25 := up I 97 16 ((I 97 16) + (1 : Int32))
  (c0  I25 J))
def bd_140_0 (c0 : (Nat → Nat → Int32) → (Nat → Nat → Int64) → Option ((Nat → Nat → Int32) × (Nat → Nat → Int64))) (I : (Nat → Nat → Int32)) (J : (Nat → Nat → Int64)) : Option ((Nat → Nat → Int32) × (Nat → Nat → Int64)) :=
  (if (I 97 16) < (I 97 15) then ((f_137 (I 97 16) I).bind fun q24 => (if q24 = (32 : Int32) then (lb_140_1 c0  I J) else ((f_137 (I 97 16) I).bind fun q26 => (if q26 = (10 : Int32) then (lb_140_1 c0  I J) else (lb_140_2   I J))))) else (lb_140_2   I J))
def lb_140_0 : (Nat → Nat → Int32) → (Nat → Nat → Int64) → Option ((Nat → Nat → Int32) × (Nat → Nat → Int64)) := fx (fun _ _ => none) (bd_140_0 ) FU
def f_140 (I : (Nat → Nat → Int32)) (J : (Nat → Nat → Int64)) : Option ((Nat → Nat → Int32) × (Nat → Nat → Int64)) :=
  (lb_140_0   I J)
theorem tl_140_15 {d : Nat} {κ : KT} {cs : Nat × Nat} {W : Nat} (I : (Nat → Nat → Int32)) (J : (Nat → Nat → Int64)) (r : ((Nat → Nat → Int32) × (Nat → Nat → Int64))) (h : lb_140_15   I J = some r) : tt (d + 1) me_140 bk_140_15 [some (.ref 97), none] [] (cw (km κ) cs I J W) (.inl none) (cw (km κ) cs r.1 r.2 W) :=
  let I10 := up I 97 19 ((I 97 16) - (I 97 18))
  tt_R 8 (fun r => (.inl none)) (fun r => (cw (km κ) cs r.1 r.2 W)) h (fun _ => rfl)
theorem tl_140_14 {d : Nat} {κ : KT} {cs : Nat × Nat} {W : Nat} (s1 : Int32) (I : (Nat → Nat → Int32)) (J : (Nat → Nat → Int64)) (r : ((Nat → Nat → Int32) × (Nat → Nat → Int64))) (h : lb_140_14  s1 I J = some r) : tt (d + 1) me_140 bk_140_14 [some (.ref 97), none] [.int s1, .ref 97] (cw (km κ) cs I J W) (.inl none) (cw (km κ) cs r.1 r.2 W) :=
  let I9 := up I 97 17 s1
  tt_J (L1 := bk_140_15) 0 [some (.ref 97), none] [] (cw (km κ) cs I9 J W) (fun _ => rfl) (tt_F [some (.ref 97), none] (And.intro rfl trivial) (tl_140_15   I9 J _ h))
theorem tl_140_12 {d : Nat} {κ : KT} {cs : Nat × Nat} {W : Nat} (I : (Nat → Nat → Int32)) (J : (Nat → Nat → Int64)) (r : ((Nat → Nat → Int32) × (Nat → Nat → Int64))) (h : lb_140_12   I J = some r) : tt (d + 1) me_140 bk_140_12 [some (.ref 97), none] [.ref 97] (cw (km κ) cs I J W) (.inl none) (cw (km κ) cs r.1 r.2 W) :=
  tt_J (L1 := bk_140_14) 1 [some (.ref 97), none] [.int (3 : Int32), .ref 97] (cw (km κ) cs I J W) (fun _ => rfl) (tt_F [some (.ref 97), none] (And.intro rfl trivial) (tl_140_14  (3 : Int32) I J _ h))
theorem tl_140_9 {d : Nat} {κ : KT} {cs : Nat × Nat} {W : Nat} (c8 : (Nat → Nat → Int32) → (Nat → Nat → Int64) → Option ((Nat → Nat → Int32) × (Nat → Nat → Int64))) (k8 : ∀ (I : (Nat → Nat → Int32)) (J : (Nat → Nat → Int64)) (r : ((Nat → Nat → Int32) × (Nat → Nat → Int64))), c8  I J = some r → tt (d + 1) me_140 bk_140_8 [some (.ref 97), none] [] (cw (km κ) cs I J W) (.inl none) (cw (km κ) cs r.1 r.2 W)) (I : (Nat → Nat → Int32)) (J : (Nat → Nat → Int64)) (r : ((Nat → Nat → Int32) × (Nat → Nat → Int64))) (h : lb_140_9 c8  I J = some r) : tt (d + 1) me_140 bk_140_9 [some (.ref 97), none] [] (cw (km κ) cs I J W) (.inl none) (cw (km κ) cs r.1 r.2 W) :=
  let I14 := up I 97 16 ((I 97 16) + (1 : Int32))
  tt_J (L1 := bk_140_8) 6 [some (.ref 97), none] [] (cw (km κ) cs I14 J W) (fun _ => rfl) (tt_F [some (.ref 97), none] (And.intro rfl trivial) (k8  I14 J _ h))
theorem tb_140_8 {d : Nat} {κ : KT} {cs : Nat × Nat} {W : Nat} (c8 : (Nat → Nat → Int32) → (Nat → Nat → Int64) → Option ((Nat → Nat → Int32) × (Nat → Nat → Int64))) (k8 : ∀ (I : (Nat → Nat → Int32)) (J : (Nat → Nat → Int64)) (r : ((Nat → Nat → Int32) × (Nat → Nat → Int64))), c8  I J = some r → tt (d + 1) me_140 bk_140_8 [some (.ref 97), none] [] (cw (km κ) cs I J W) (.inl none) (cw (km κ) cs r.1 r.2 W)) (I : (Nat → Nat → Int32)) (J : (Nat → Nat → Int64)) (r : ((Nat → Nat → Int32) × (Nat → Nat → Int64))) (h : bd_140_8  c8  I J = some r) : tt (d + 1) me_140 bk_140_8 [some (.ref 97), none] [] (cw (km κ) cs I J W) (.inl none) (cw (km κ) cs r.1 r.2 W) :=
  tt_C (L1 := (bk_140_8.drop 4)) 4 [some (.ref 97), none] [] (cw (km κ) cs I J W) h (fun _ => rfl) (fun _ e => m_137 (d := d) e) fun q11 h =>
  tt_C (L1 := (bk_140_8.drop 5)) 1 [some (.ref 97), none] [] (cw (km κ) cs I J W) h (fun _ => rfl) (fun _ e => m_139 (d := d) e) fun q12 h =>
  tt_I (L1 := bk_140_10) (L2 := (bk_140_8.drop 6)) 1 [some (.ref 97), none] [] (cw (km κ) cs I J W) h (fun _ => rfl) (fun h =>
  let I13 := up I 97 17 (2 : Int32)
  tt_J (L1 := bk_140_15) 3 [some (.ref 97), none] [] (cw (km κ) cs I13 J W) (fun _ => rfl) (tt_F [some (.ref 97), none] (And.intro rfl trivial) (tl_140_15   I13 J _ h))) (fun h =>
  tt_I (L1 := (bk_140_8.drop 13)) (L2 := bk_140_9) 7 [some (.ref 97), none] [] (cw (km κ) cs I J W) h (fun _ => rfl) (fun h =>
  tt_C (L1 := (bk_140_8.drop 22)) 9 [some (.ref 97), none] [.int ((10 : Int32) * (I 97 20)), .ref 97] (cw (km κ) cs I J W) h (fun _ => rfl) (fun _ e => m_137 (d := d) e) fun q15 h =>
  let I16 := up I 97 20 ((((10 : Int32) * (I 97 20)) + q15) - (48 : Int32))
  tt_J (L1 := bk_140_9) 3 [some (.ref 97), none] [] (cw (km κ) cs I16 J W) (fun _ => rfl) (tt_F [some (.ref 97), none] (And.intro rfl trivial) (tl_140_9 c8 k8  I16 J _ h))) (fun h =>
  tt_F [some (.ref 97), none] (And.intro rfl trivial) (tl_140_9 c8 k8  I J _ h)))
theorem tn_140_8 {d : Nat} {κ : KT} {cs : Nat × Nat} {W : Nat} : ∀ (n : Nat) (I : (Nat → Nat → Int32)) (J : (Nat → Nat → Int64)) (r : ((Nat → Nat → Int32) × (Nat → Nat → Int64))), fx (fun _ _ => none) (bd_140_8 ) n  I J = some r → tt (d + 1) me_140 bk_140_8 [some (.ref 97), none] [] (cw (km κ) cs I J W) (.inl none) (cw (km κ) cs r.1 r.2 W)
  | 0 => fun _ _ _ h => nomatch h
  | n + 1 => fun  I J r h => tb_140_8  (fx _ (bd_140_8 ) n) (tn_140_8  n)  I J r h
theorem tl_140_8 {d : Nat} {κ : KT} {cs : Nat × Nat} {W : Nat} (I : (Nat → Nat → Int32)) (J : (Nat → Nat → Int64)) (r : ((Nat → Nat → Int32) × (Nat → Nat → Int64))) (h : lb_140_8   I J = some r) : tt (d + 1) me_140 bk_140_8 [some (.ref 97), none] [] (cw (km κ) cs I J W) (.inl none) (cw (km κ) cs r.1 r.2 W) := tn_140_8  FU  I J r h
theorem tl_140_5 {d : Nat} {κ : KT} {cs : Nat × Nat} {W : Nat} (c4 : (Nat → Nat → Int32) → (Nat → Nat → Int64) → Option ((Nat → Nat → Int32) × (Nat → Nat → Int64))) (k4 : ∀ (I : (Nat → Nat → Int32)) (J : (Nat → Nat → Int64)) (r : ((Nat → Nat → Int32) × (Nat → Nat → Int64))), c4  I J = some r → tt (d + 1) me_140 bk_140_4 [some (.ref 97), none] [] (cw (km κ) cs I J W) (.inl none) (cw (km κ) cs r.1 r.2 W)) (I : (Nat → Nat → Int32)) (J : (Nat → Nat → Int64)) (r : ((Nat → Nat → Int32) × (Nat → Nat → Int64))) (h : lb_140_5 c4  I J = some r) : tt (d + 1) me_140 bk_140_5 [some (.ref 97), none] [] (cw (km κ) cs I J W) (.inl none) (cw (km κ) cs r.1 r.2 W) :=
  let I20 := up I 97 16 ((I 97 16) + (1 : Int32))
  tt_J (L1 := bk_140_4) 6 [some (.ref 97), none] [] (cw (km κ) cs I20 J W) (fun _ => rfl) (tt_F [some (.ref 97), none] (And.intro rfl trivial) (k4  I20 J _ h))
theorem tb_140_4 {d : Nat} {κ : KT} {cs : Nat × Nat} {W : Nat} (c4 : (Nat → Nat → Int32) → (Nat → Nat → Int64) → Option ((Nat → Nat → Int32) × (Nat → Nat → Int64))) (k4 : ∀ (I : (Nat → Nat → Int32)) (J : (Nat → Nat → Int64)) (r : ((Nat → Nat → Int32) × (Nat → Nat → Int64))), c4  I J = some r → tt (d + 1) me_140 bk_140_4 [some (.ref 97), none] [] (cw (km κ) cs I J W) (.inl none) (cw (km κ) cs r.1 r.2 W)) (I : (Nat → Nat → Int32)) (J : (Nat → Nat → Int64)) (r : ((Nat → Nat → Int32) × (Nat → Nat → Int64))) (h : bd_140_4  c4  I J = some r) : tt (d + 1) me_140 bk_140_4 [some (.ref 97), none] [] (cw (km κ) cs I J W) (.inl none) (cw (km κ) cs r.1 r.2 W) :=
  tt_C (L1 := (bk_140_4.drop 4)) 4 [some (.ref 97), none] [] (cw (km κ) cs I J W) h (fun _ => rfl) (fun _ e => m_137 (d := d) e) fun q17 h =>
  tt_C (L1 := (bk_140_4.drop 5)) 1 [some (.ref 97), none] [] (cw (km κ) cs I J W) h (fun _ => rfl) (fun _ e => m_138 (d := d) e) fun q18 h =>
  tt_I (L1 := bk_140_6) (L2 := (bk_140_4.drop 6)) 1 [some (.ref 97), none] [] (cw (km κ) cs I J W) h (fun _ => rfl) (fun h =>
  let I19 := up I 97 17 (1 : Int32)
  tt_J (L1 := bk_140_15) 3 [some (.ref 97), none] [] (cw (km κ) cs I19 J W) (fun _ => rfl) (tt_F [some (.ref 97), none] (And.intro rfl trivial) (tl_140_15   I19 J _ h))) (fun h =>
  tt_I (L1 := (bk_140_4.drop 13)) (L2 := bk_140_5) 7 [some (.ref 97), none] [] (cw (km κ) cs I J W) h (fun _ => rfl) (fun h =>
  tt_C (L1 := (bk_140_4.drop 22)) 9 [some (.ref 97), none] [.long ((J 97 22) <<< (((5 : Int32)).toInt64 &&& 63)), .ref 97] (cw (km κ) cs I J W) h (fun _ => rfl) (fun _ e => m_137 (d := d) e) fun q21 h =>
  let J22 := up J 97 22 (((J 97 22) <<< (((5 : Int32)).toInt64 &&& 63)) ||| ((q21 - (96 : Int32))).toInt64)
  tt_J (L1 := bk_140_5) 4 [some (.ref 97), none] [] (cw (km κ) cs I J22 W) (fun _ => rfl) (tt_F [some (.ref 97), none] (And.intro rfl trivial) (tl_140_5 c4 k4  I J22 _ h))) (fun h =>
  tt_F [some (.ref 97), none] (And.intro rfl trivial) (tl_140_5 c4 k4  I J _ h)))
theorem tn_140_4 {d : Nat} {κ : KT} {cs : Nat × Nat} {W : Nat} : ∀ (n : Nat) (I : (Nat → Nat → Int32)) (J : (Nat → Nat → Int64)) (r : ((Nat → Nat → Int32) × (Nat → Nat → Int64))), fx (fun _ _ => none) (bd_140_4 ) n  I J = some r → tt (d + 1) me_140 bk_140_4 [some (.ref 97), none] [] (cw (km κ) cs I J W) (.inl none) (cw (km κ) cs r.1 r.2 W)
  | 0 => fun _ _ _ h => nomatch h
  | n + 1 => fun  I J r h => tb_140_4  (fx _ (bd_140_4 ) n) (tn_140_4  n)  I J r h
theorem tl_140_4 {d : Nat} {κ : KT} {cs : Nat × Nat} {W : Nat} (I : (Nat → Nat → Int32)) (J : (Nat → Nat → Int64)) (r : ((Nat → Nat → Int32) × (Nat → Nat → Int64))) (h : lb_140_4   I J = some r) : tt (d + 1) me_140 bk_140_4 [some (.ref 97), none] [] (cw (km κ) cs I J W) (.inl none) (cw (km κ) cs r.1 r.2 W) := tn_140_4  FU  I J r h
theorem tl_140_2 {d : Nat} {κ : KT} {cs : Nat × Nat} {W : Nat} (I : (Nat → Nat → Int32)) (J : (Nat → Nat → Int64)) (r : ((Nat → Nat → Int32) × (Nat → Nat → Int64))) (h : lb_140_2   I J = some r) : tt (d + 1) me_140 bk_140_2 [some (.ref 97), none] [] (cw (km κ) cs I J W) (.inl none) (cw (km κ) cs r.1 r.2 W) :=
  let I1 := up I 97 18 (I 97 16)
  let J2 := up J 97 22 (0 : Int64)
  tt_J (L1 := (bk_140_2.drop 7)) 6 [some (.ref 97), none] [] (cw (km κ) cs I1 J2 W) (fun _ => rfl) (
  let I3 := up I1 97 20 (0 : Int32)
  tt_C (L1 := (bk_140_2.drop 14)) 7 [some (.ref 97), none] [] (cw (km κ) cs I3 J2 W) (show ((f_137 (I3 97 16) I3).bind fun q4 => (let I5 := up I3 97 21 q4
  (if (I5 97 16) < (I5 97 15) then ((f_138 q4 ).bind fun q6 => (if q6 = 0 then ((f_139 q4 ).bind fun q7 => (if q7 = 0 then (let I8 := up I5 97 16 ((I5 97 16) + (1 : Int32))
  (if q4 = (59 : Int32) then (lb_140_12   I8 J2) else (if q4 = (40 : Int32) then (lb_140_12   I8 J2) else (if q4 = (41 : Int32) then (lb_140_12   I8 J2) else (if q4 = (43 : Int32) then (lb_140_12   I8 J2) else (if q4 = (45 : Int32) then (lb_140_12   I8 J2) else (if q4 = (42 : Int32) then (lb_140_12   I8 J2) else (if q4 = (47 : Int32) then (lb_140_12   I8 J2) else (if q4 = (60 : Int32) then (lb_140_12   I8 J2) else (if q4 = (61 : Int32) then (lb_140_12   I8 J2) else (lb_140_14  (4 : Int32) I8 J2))))))))))) else (lb_140_8   I5 J2))) else (lb_140_4   I5 J2))) else (let I23 := up I5 97 17 (0 : Int32)
  (lb_140_15   I23 J2))))) = some r from h) (fun _ => rfl) (fun _ e => m_137 (d := d) e) fun q4 h =>
  let I5 := up I3 97 21 q4
  tt_I (L1 := bk_140_3) (L2 := (bk_140_2.drop 23)) 9 [some (.ref 97), some (.int q4)] [] (cw (km κ) cs I5 J2 W) h (fun _ => rfl) (fun h =>
  tt_C (L1 := (bk_140_3.drop 2)) 2 [some (.ref 97), some (.int q4)] [] (cw (km κ) cs I5 J2 W) h (fun _ => rfl) (fun _ e => m_138 (d := d) e) fun q6 h =>
  tt_I (L1 := bk_140_7) (L2 := bk_140_4) 1 [some (.ref 97), some (.int q4)] [] (cw (km κ) cs I5 J2 W) h (fun _ => rfl) (fun h =>
  tt_C (L1 := (bk_140_7.drop 2)) 2 [some (.ref 97), some (.int q4)] [] (cw (km κ) cs I5 J2 W) h (fun _ => rfl) (fun _ e => m_139 (d := d) e) fun q7 h =>
  tt_I (L1 := bk_140_11) (L2 := bk_140_8) 1 [some (.ref 97), some (.int q4)] [] (cw (km κ) cs I5 J2 W) h (fun _ => rfl) (fun h =>
  let I8 := up I5 97 16 ((I5 97 16) + (1 : Int32))
  tt_I (L1 := bk_140_12) (L2 := (bk_140_11.drop 10)) 10 [some (.ref 97), some (.int q4)] [.ref 97] (cw (km κ) cs I8 J2 W) h (fun _ => rfl) (fun h =>
  tt_F [some (.ref 97), none] (And.intro rfl trivial) (tl_140_12   I8 J2 _ h)) (fun h =>
  tt_I (L1 := bk_140_12) (L2 := (bk_140_11.drop 13)) 3 [some (.ref 97), some (.int q4)] [.ref 97] (cw (km κ) cs I8 J2 W) h (fun _ => rfl) (fun h =>
  tt_F [some (.ref 97), none] (And.intro rfl trivial) (tl_140_12   I8 J2 _ h)) (fun h =>
  tt_I (L1 := bk_140_12) (L2 := (bk_140_11.drop 16)) 3 [some (.ref 97), some (.int q4)] [.ref 97] (cw (km κ) cs I8 J2 W) h (fun _ => rfl) (fun h =>
  tt_F [some (.ref 97), none] (And.intro rfl trivial) (tl_140_12   I8 J2 _ h)) (fun h =>
  tt_I (L1 := bk_140_12) (L2 := (bk_140_11.drop 19)) 3 [some (.ref 97), some (.int q4)] [.ref 97] (cw (km κ) cs I8 J2 W) h (fun _ => rfl) (fun h =>
  tt_F [some (.ref 97), none] (And.intro rfl trivial) (tl_140_12   I8 J2 _ h)) (fun h =>
  tt_I (L1 := bk_140_12) (L2 := (bk_140_11.drop 22)) 3 [some (.ref 97), some (.int q4)] [.ref 97] (cw (km κ) cs I8 J2 W) h (fun _ => rfl) (fun h =>
  tt_F [some (.ref 97), none] (And.intro rfl trivial) (tl_140_12   I8 J2 _ h)) (fun h =>
  tt_I (L1 := bk_140_12) (L2 := (bk_140_11.drop 25)) 3 [some (.ref 97), some (.int q4)] [.ref 97] (cw (km κ) cs I8 J2 W) h (fun _ => rfl) (fun h =>
  tt_F [some (.ref 97), none] (And.intro rfl trivial) (tl_140_12   I8 J2 _ h)) (fun h =>
  tt_I (L1 := bk_140_12) (L2 := (bk_140_11.drop 28)) 3 [some (.ref 97), some (.int q4)] [.ref 97] (cw (km κ) cs I8 J2 W) h (fun _ => rfl) (fun h =>
  tt_F [some (.ref 97), none] (And.intro rfl trivial) (tl_140_12   I8 J2 _ h)) (fun h =>
  tt_I (L1 := bk_140_12) (L2 := (bk_140_11.drop 31)) 3 [some (.ref 97), some (.int q4)] [.ref 97] (cw (km κ) cs I8 J2 W) h (fun _ => rfl) (fun h =>
  tt_F [some (.ref 97), none] (And.intro rfl trivial) (tl_140_12   I8 J2 _ h)) (fun h =>
  tt_I (L1 := bk_140_12) (L2 := bk_140_13) 3 [some (.ref 97), some (.int q4)] [.ref 97] (cw (km κ) cs I8 J2 W) h (fun _ => rfl) (fun h =>
  tt_F [some (.ref 97), none] (And.intro rfl trivial) (tl_140_12   I8 J2 _ h)) (fun h =>
  tt_J (L1 := bk_140_14) 0 [some (.ref 97), some (.int q4)] [.int (4 : Int32), .ref 97] (cw (km κ) cs I8 J2 W) (fun _ => rfl) (tt_F [some (.ref 97), none] (And.intro rfl trivial) (tl_140_14  (4 : Int32) I8 J2 _ h)))))))))))) (fun h =>
  tt_F [some (.ref 97), none] (And.intro rfl trivial) (tl_140_8   I5 J2 _ h))) (fun h =>
  tt_F [some (.ref 97), none] (And.intro rfl trivial) (tl_140_4   I5 J2 _ h))) (fun h =>
  let I23 := up I5 97 17 (0 : Int32)
  tt_J (L1 := bk_140_15) 3 [some (.ref 97), some (.int q4)] [] (cw (km κ) cs I23 J2 W) (fun _ => rfl) (tt_F [some (.ref 97), none] (And.intro rfl trivial) (tl_140_15   I23 J2 _ h))))
theorem tl_140_1 {d : Nat} {κ : KT} {cs : Nat × Nat} {W : Nat} (c0 : (Nat → Nat → Int32) → (Nat → Nat → Int64) → Option ((Nat → Nat → Int32) × (Nat → Nat → Int64))) (k0 : ∀ (I : (Nat → Nat → Int32)) (J : (Nat → Nat → Int64)) (r : ((Nat → Nat → Int32) × (Nat → Nat → Int64))), c0  I J = some r → tt (d + 1) me_140 bk_140_0 [some (.ref 97), none] [] (cw (km κ) cs I J W) (.inl none) (cw (km κ) cs r.1 r.2 W)) (I : (Nat → Nat → Int32)) (J : (Nat → Nat → Int64)) (r : ((Nat → Nat → Int32) × (Nat → Nat → Int64))) (h : lb_140_1 c0  I J = some r) : tt (d + 1) me_140 bk_140_1 [some (.ref 97), none] [] (cw (km κ) cs I J W) (.inl none) (cw (km κ) cs r.1 r.2 W) :=
  let I25 := up I 97 16 ((I 97 16) + (1 : Int32))
  tt_J (L1 := bk_140_0) 6 [some (.ref 97), none] [] (cw (km κ) cs I25 J W) (fun _ => rfl) (tt_F [some (.ref 97), none] (And.intro rfl trivial) (k0  I25 J _ h))
theorem tb_140_0 {d : Nat} {κ : KT} {cs : Nat × Nat} {W : Nat} (c0 : (Nat → Nat → Int32) → (Nat → Nat → Int64) → Option ((Nat → Nat → Int32) × (Nat → Nat → Int64))) (k0 : ∀ (I : (Nat → Nat → Int32)) (J : (Nat → Nat → Int64)) (r : ((Nat → Nat → Int32) × (Nat → Nat → Int64))), c0  I J = some r → tt (d + 1) me_140 bk_140_0 [some (.ref 97), none] [] (cw (km κ) cs I J W) (.inl none) (cw (km κ) cs r.1 r.2 W)) (I : (Nat → Nat → Int32)) (J : (Nat → Nat → Int64)) (r : ((Nat → Nat → Int32) × (Nat → Nat → Int64))) (h : bd_140_0  c0  I J = some r) : tt (d + 1) me_140 bk_140_0 [some (.ref 97), none] [] (cw (km κ) cs I J W) (.inl none) (cw (km κ) cs r.1 r.2 W) :=
  tt_I (L1 := (bk_140_0.drop 5)) (L2 := bk_140_2) 5 [some (.ref 97), none] [] (cw (km κ) cs I J W) h (fun _ => rfl) (fun h =>
  tt_C (L1 := (bk_140_0.drop 9)) 4 [some (.ref 97), none] [] (cw (km κ) cs I J W) h (fun _ => rfl) (fun _ e => m_137 (d := d) e) fun q24 h =>
  tt_I (L1 := bk_140_1) (L2 := (bk_140_0.drop 11)) 2 [some (.ref 97), none] [] (cw (km κ) cs I J W) h (fun _ => rfl) (fun h =>
  tt_F [some (.ref 97), none] (And.intro rfl trivial) (tl_140_1 c0 k0  I J _ h)) (fun h =>
  tt_C (L1 := (bk_140_0.drop 15)) 4 [some (.ref 97), none] [] (cw (km κ) cs I J W) h (fun _ => rfl) (fun _ e => m_137 (d := d) e) fun q26 h =>
  tt_I (L1 := bk_140_1) (L2 := bk_140_2) 2 [some (.ref 97), none] [] (cw (km κ) cs I J W) h (fun _ => rfl) (fun h =>
  tt_F [some (.ref 97), none] (And.intro rfl trivial) (tl_140_1 c0 k0  I J _ h)) (fun h =>
  tt_F [some (.ref 97), none] (And.intro rfl trivial) (tl_140_2   I J _ h)))) (fun h =>
  tt_F [some (.ref 97), none] (And.intro rfl trivial) (tl_140_2   I J _ h))
theorem tn_140_0 {d : Nat} {κ : KT} {cs : Nat × Nat} {W : Nat} : ∀ (n : Nat) (I : (Nat → Nat → Int32)) (J : (Nat → Nat → Int64)) (r : ((Nat → Nat → Int32) × (Nat → Nat → Int64))), fx (fun _ _ => none) (bd_140_0 ) n  I J = some r → tt (d + 1) me_140 bk_140_0 [some (.ref 97), none] [] (cw (km κ) cs I J W) (.inl none) (cw (km κ) cs r.1 r.2 W)
  | 0 => fun _ _ _ h => nomatch h
  | n + 1 => fun  I J r h => tb_140_0  (fx _ (bd_140_0 ) n) (tn_140_0  n)  I J r h
theorem tl_140_0 {d : Nat} {κ : KT} {cs : Nat × Nat} {W : Nat} (I : (Nat → Nat → Int32)) (J : (Nat → Nat → Int64)) (r : ((Nat → Nat → Int32) × (Nat → Nat → Int64))) (h : lb_140_0   I J = some r) : tt (d + 1) me_140 bk_140_0 [some (.ref 97), none] [] (cw (km κ) cs I J W) (.inl none) (cw (km κ) cs r.1 r.2 W) := tn_140_0  FU  I J r h
theorem m_140 {d : Nat} {κ : KT} {cs : Nat × Nat} {W : Nat} {I : (Nat → Nat → Int32)} {J : (Nat → Nat → Int64)} {r : ((Nat → Nat → Int32) × (Nat → Nat → Int64))} (h : f_140  I J = some r) : tm (d + 1) 140 [.ref 97] (cw (km κ) cs I J W) (.inl none) (cw (km κ) cs r.1 r.2 W) :=
  tm_of me_140 rfl (Nat.le_of_ble_eq_true rfl) (
  tt_F [some (.ref 97), none] (And.intro rfl trivial) (tl_140_0   I J _ h))
/- 141 -/
def lb_141_3 (x5 : Int64) : Option Int64 :=
  (some x5)
def lb_141_2 (x4 : Int32) (x5 : Int64) : Option Int64 :=
  (if x4 = 0 then (lb_141_3  x5 ) else (lb_141_3  ((x5 <<< (((5 : Int32)).toInt64 &&& 63)) ||| ((x4 - (96 : Int32))).toInt64) ))
def lb_141_1 (x3 : Int32) (x4 : Int32) (x5 : Int64) : Option Int64 :=
  (if x3 = 0 then (lb_141_2  x4 x5 ) else (lb_141_2  x4 ((x5 <<< (((5 : Int32)).toInt64 &&& 63)) ||| ((x3 - (96 : Int32))).toInt64) ))
def f_141 (x0 : Int32) (x1 : Int32) (x2 : Int32) (x3 : Int32) (x4 : Int32) : Option Int64 :=
  (if x2 = 0 then (lb_141_1  x3 x4 ((((x0).toInt64 - (lN 96)) <<< (((5 : Int32)).toInt64 &&& 63)) ||| ((x1 - (96 : Int32))).toInt64) ) else (lb_141_1  x3 x4 ((((((x0).toInt64 - (lN 96)) <<< (((5 : Int32)).toInt64 &&& 63)) ||| ((x1 - (96 : Int32))).toInt64) <<< (((5 : Int32)).toInt64 &&& 63)) ||| ((x2 - (96 : Int32))).toInt64) ))
theorem tl_141_3 {d : Nat} {κ : KT} {cs : Nat × Nat} {I : Nat → Nat → Int32} {J : Nat → Nat → Int64} {W : Nat} (x5 : Int64) (r : Int64) (h : lb_141_3  x5  = some r) : tt d me_141 bk_141_3 [none, none, none, none, none, some (.long x5), none] [] (cw (km κ) cs I J W) (.inl (some (.long r))) (cw (km κ) cs I J W) :=
  tt_R 2 (fun r => (.inl (some (.long r)))) (fun r => (cw (km κ) cs I J W)) h (fun _ => rfl)
theorem tl_141_2 {d : Nat} {κ : KT} {cs : Nat × Nat} {I : Nat → Nat → Int32} {J : Nat → Nat → Int64} {W : Nat} (x4 : Int32) (x5 : Int64) (r : Int64) (h : lb_141_2  x4 x5  = some r) : tt d me_141 bk_141_2 [none, none, none, none, some (.int x4), some (.long x5), none] [] (cw (km κ) cs I J W) (.inl (some (.long r))) (cw (km κ) cs I J W) :=
  tt_I (L1 := bk_141_3) (L2 := (bk_141_2.drop 2)) 2 [none, none, none, none, some (.int x4), some (.long x5), none] [] (cw (km κ) cs I J W) h (fun _ => rfl) (fun h =>
  tt_F [none, none, none, none, none, some (.long x5), none] (And.intro rfl trivial) (tl_141_3  x5  _ h)) (fun h =>
  tt_J (L1 := bk_141_3) 8 [none, none, none, none, some (.int x4), some (.long ((x5 <<< (((5 : Int32)).toInt64 &&& 63)) ||| ((x4 - (96 : Int32))).toInt64)), none] [] (cw (km κ) cs I J W) (fun _ => rfl) (tt_F [none, none, none, none, none, some (.long ((x5 <<< (((5 : Int32)).toInt64 &&& 63)) ||| ((x4 - (96 : Int32))).toInt64)), none] (And.intro rfl trivial) (tl_141_3  ((x5 <<< (((5 : Int32)).toInt64 &&& 63)) ||| ((x4 - (96 : Int32))).toInt64)  _ h)))
theorem tl_141_1 {d : Nat} {κ : KT} {cs : Nat × Nat} {I : Nat → Nat → Int32} {J : Nat → Nat → Int64} {W : Nat} (x3 : Int32) (x4 : Int32) (x5 : Int64) (r : Int64) (h : lb_141_1  x3 x4 x5  = some r) : tt d me_141 bk_141_1 [none, none, none, some (.int x3), some (.int x4), some (.long x5), none] [] (cw (km κ) cs I J W) (.inl (some (.long r))) (cw (km κ) cs I J W) :=
  tt_I (L1 := bk_141_2) (L2 := (bk_141_1.drop 2)) 2 [none, none, none, some (.int x3), some (.int x4), some (.long x5), none] [] (cw (km κ) cs I J W) h (fun _ => rfl) (fun h =>
  tt_F [none, none, none, none, some (.int x4), some (.long x5), none] (And.intro rfl (And.intro rfl trivial)) (tl_141_2  x4 x5  _ h)) (fun h =>
  tt_J (L1 := bk_141_2) 8 [none, none, none, some (.int x3), some (.int x4), some (.long ((x5 <<< (((5 : Int32)).toInt64 &&& 63)) ||| ((x3 - (96 : Int32))).toInt64)), none] [] (cw (km κ) cs I J W) (fun _ => rfl) (tt_F [none, none, none, none, some (.int x4), some (.long ((x5 <<< (((5 : Int32)).toInt64 &&& 63)) ||| ((x3 - (96 : Int32))).toInt64)), none] (And.intro rfl (And.intro rfl trivial)) (tl_141_2  x4 ((x5 <<< (((5 : Int32)).toInt64 &&& 63)) ||| ((x3 - (96 : Int32))).toInt64)  _ h)))
theorem m_141 {d : Nat} {κ : KT} {cs : Nat × Nat} {I : Nat → Nat → Int32} {J : Nat → Nat → Int64} {W : Nat} {x0 : Int32} {x1 : Int32} {x2 : Int32} {x3 : Int32} {x4 : Int32} {r : Int64} (h : f_141 x0 x1 x2 x3 x4  = some r) : tm d 141 [.int x0, .int x1, .int x2, .int x3, .int x4] (cw (km κ) cs I J W) (.inl (some (.long r))) (cw (km κ) cs I J W) :=
  tm_of me_141 rfl (Nat.le_of_ble_eq_true rfl) (
  tt_I (L1 := bk_141_1) (L2 := (bk_141_0.drop 14)) 14 [some (.int x0), some (.int x1), some (.int x2), some (.int x3), some (.int x4), some (.long ((((x0).toInt64 - (lN 96)) <<< (((5 : Int32)).toInt64 &&& 63)) ||| ((x1 - (96 : Int32))).toInt64)), none] [] (cw (km κ) cs I J W) h (fun _ => rfl) (fun h =>
  tt_F [none, none, none, some (.int x3), some (.int x4), some (.long ((((x0).toInt64 - (lN 96)) <<< (((5 : Int32)).toInt64 &&& 63)) ||| ((x1 - (96 : Int32))).toInt64)), none] (And.intro rfl (And.intro rfl (And.intro rfl trivial))) (tl_141_1  x3 x4 ((((x0).toInt64 - (lN 96)) <<< (((5 : Int32)).toInt64 &&& 63)) ||| ((x1 - (96 : Int32))).toInt64)  _ h)) (fun h =>
  tt_J (L1 := bk_141_1) 8 [some (.int x0), some (.int x1), some (.int x2), some (.int x3), some (.int x4), some (.long ((((((x0).toInt64 - (lN 96)) <<< (((5 : Int32)).toInt64 &&& 63)) ||| ((x1 - (96 : Int32))).toInt64) <<< (((5 : Int32)).toInt64 &&& 63)) ||| ((x2 - (96 : Int32))).toInt64)), none] [] (cw (km κ) cs I J W) (fun _ => rfl) (tt_F [none, none, none, some (.int x3), some (.int x4), some (.long ((((((x0).toInt64 - (lN 96)) <<< (((5 : Int32)).toInt64 &&& 63)) ||| ((x1 - (96 : Int32))).toInt64) <<< (((5 : Int32)).toInt64 &&& 63)) ||| ((x2 - (96 : Int32))).toInt64)), none] (And.intro rfl (And.intro rfl (And.intro rfl trivial))) (tl_141_1  x3 x4 ((((((x0).toInt64 - (lN 96)) <<< (((5 : Int32)).toInt64 &&& 63)) ||| ((x1 - (96 : Int32))).toInt64) <<< (((5 : Int32)).toInt64 &&& 63)) ||| ((x2 - (96 : Int32))).toInt64)  _ h))))
/- 142 -/
def f_142 (x0 : Int32) : Option Int64 :=
  (if x0 = (0 : Int32) then ((f_141 (100 : Int32) (101 : Int32) (97 : Int32) (108 : Int32) (0 : Int32) ).bind fun q1 => (some q1)) else (if x0 = (1 : Int32) then ((f_141 (119 : Int32) (105 : Int32) (115 : Int32) (104 : Int32) (0 : Int32) ).bind fun q2 => (some q2)) else (if x0 = (2 : Int32) then ((f_141 (104 : Int32) (101 : Int32) (97 : Int32) (112 : Int32) (115 : Int32) ).bind fun q3 => (some q3)) else (if x0 = (3 : Int32) then ((f_141 (99 : Int32) (97 : Int32) (114 : Int32) (100 : Int32) (115 : Int32) ).bind fun q4 => (some q4)) else (if x0 = (4 : Int32) then ((f_141 (110 : Int32) (97 : Int32) (109 : Int32) (101 : Int32) (100 : Int32) ).bind fun q5 => (some q5)) else (if x0 = (5 : Int32) then ((f_141 (115 : Int32) (105 : Int32) (122 : Int32) (101 : Int32) (0 : Int32) ).bind fun q6 => (some q6)) else (if x0 = (6 : Int32) then ((f_141 (108 : Int32) (105 : Int32) (101 : Int32) (115 : Int32) (0 : Int32) ).bind fun q7 => (some q7)) else (if x0 = (7 : Int32) then ((f_141 (116 : Int32) (117 : Int32) (114 : Int32) (110 : Int32) (0 : Int32) ).bind fun q8 => (some q8)) else (if x0 = (8 : Int32) then ((f_141 (102 : Int32) (114 : Int32) (111 : Int32) (0 : Int32) (0 : Int32) ).bind fun q9 => (some q9)) else (if x0 = (9 : Int32) then ((f_141 (114 : Int32) (117 : Int32) (110 : Int32) (0 : Int32) (0 : Int32) ).bind fun q10 => (some q10)) else (if x0 = (10 : Int32) then ((f_141 (117 : Int32) (110 : Int32) (100 : Int32) (101 : Int32) (114 : Int32) ).bind fun q11 => (some q11)) else (if x0 = (11 : Int32) then ((f_141 (111 : Int32) (118 : Int32) (101 : Int32) (114 : Int32) (0 : Int32) ).bind fun q12 => (some q12)) else (if x0 = (12 : Int32) then ((f_141 (97 : Int32) (116 : Int32) (0 : Int32) (0 : Int32) (0 : Int32) ).bind fun q13 => (some q13)) else (if x0 = (13 : Int32) then ((f_141 (97 : Int32) (110 : Int32) (100 : Int32) (0 : Int32) (0 : Int32) ).bind fun q14 => (some q14)) else (if x0 = (14 : Int32) then ((f_141 (111 : Int32) (114 : Int32) (0 : Int32) (0 : Int32) (0 : Int32) ).bind fun q15 => (some q15)) else ((f_141 (110 : Int32) (111 : Int32) (116 : Int32) (0 : Int32) (0 : Int32) ).bind fun q16 => (some q16)))))))))))))))))
theorem m_142 {d : Nat} {κ : KT} {cs : Nat × Nat} {I : Nat → Nat → Int32} {J : Nat → Nat → Int64} {W : Nat} {x0 : Int32} {r : Int64} (h : f_142 x0  = some r) : tm (d + 1) 142 [.int x0] (cw (km κ) cs I J W) (.inl (some (.long r))) (cw (km κ) cs I J W) :=
  tm_of me_142 rfl (Nat.le_of_ble_eq_true rfl) (
  tt_J (L1 := (bk_142_0.drop 1)) 0 [some (.int x0)] [.int x0] (cw (km κ) cs I J W) (fun _ => rfl) (
  tt_T (L1 := bk_142_1) (0 : Int32) h (fun _ => rfl) (fun h =>
  tt_C (L1 := (bk_142_1.drop 6)) 6 [some (.int x0)] [] (cw (km κ) cs I J W) h (fun _ => rfl) (fun _ e => m_141 (d := d) e) fun q1 h =>
  tt_R 1 (fun r => (.inl (some (.long r)))) (fun r => (cw (km κ) cs I J W)) h (fun _ => rfl)) (fun e0 h =>
  tt_T (L1 := bk_142_2) (1 : Int32) h (fun _ => rfl) (fun h =>
  tt_C (L1 := (bk_142_2.drop 6)) 6 [some (.int x0)] [] (cw (km κ) cs I J W) h (fun _ => rfl) (fun _ e => m_141 (d := d) e) fun q2 h =>
  tt_R 1 (fun r => (.inl (some (.long r)))) (fun r => (cw (km κ) cs I J W)) h (fun _ => rfl)) (fun e1 h =>
  tt_T (L1 := bk_142_3) (2 : Int32) h (fun _ => rfl) (fun h =>
  tt_C (L1 := (bk_142_3.drop 6)) 6 [some (.int x0)] [] (cw (km κ) cs I J W) h (fun _ => rfl) (fun _ e => m_141 (d := d) e) fun q3 h =>
  tt_R 1 (fun r => (.inl (some (.long r)))) (fun r => (cw (km κ) cs I J W)) h (fun _ => rfl)) (fun e2 h =>
  tt_T (L1 := bk_142_4) (3 : Int32) h (fun _ => rfl) (fun h =>
  tt_C (L1 := (bk_142_4.drop 6)) 6 [some (.int x0)] [] (cw (km κ) cs I J W) h (fun _ => rfl) (fun _ e => m_141 (d := d) e) fun q4 h =>
  tt_R 1 (fun r => (.inl (some (.long r)))) (fun r => (cw (km κ) cs I J W)) h (fun _ => rfl)) (fun e3 h =>
  tt_T (L1 := bk_142_5) (4 : Int32) h (fun _ => rfl) (fun h =>
  tt_C (L1 := (bk_142_5.drop 6)) 6 [some (.int x0)] [] (cw (km κ) cs I J W) h (fun _ => rfl) (fun _ e => m_141 (d := d) e) fun q5 h =>
  tt_R 1 (fun r => (.inl (some (.long r)))) (fun r => (cw (km κ) cs I J W)) h (fun _ => rfl)) (fun e4 h =>
  tt_T (L1 := bk_142_6) (5 : Int32) h (fun _ => rfl) (fun h =>
  tt_C (L1 := (bk_142_6.drop 6)) 6 [some (.int x0)] [] (cw (km κ) cs I J W) h (fun _ => rfl) (fun _ e => m_141 (d := d) e) fun q6 h =>
  tt_R 1 (fun r => (.inl (some (.long r)))) (fun r => (cw (km κ) cs I J W)) h (fun _ => rfl)) (fun e5 h =>
  tt_T (L1 := bk_142_7) (6 : Int32) h (fun _ => rfl) (fun h =>
  tt_C (L1 := (bk_142_7.drop 6)) 6 [some (.int x0)] [] (cw (km κ) cs I J W) h (fun _ => rfl) (fun _ e => m_141 (d := d) e) fun q7 h =>
  tt_R 1 (fun r => (.inl (some (.long r)))) (fun r => (cw (km κ) cs I J W)) h (fun _ => rfl)) (fun e6 h =>
  tt_T (L1 := bk_142_8) (7 : Int32) h (fun _ => rfl) (fun h =>
  tt_C (L1 := (bk_142_8.drop 6)) 6 [some (.int x0)] [] (cw (km κ) cs I J W) h (fun _ => rfl) (fun _ e => m_141 (d := d) e) fun q8 h =>
  tt_R 1 (fun r => (.inl (some (.long r)))) (fun r => (cw (km κ) cs I J W)) h (fun _ => rfl)) (fun e7 h =>
  tt_T (L1 := bk_142_9) (8 : Int32) h (fun _ => rfl) (fun h =>
  tt_C (L1 := (bk_142_9.drop 6)) 6 [some (.int x0)] [] (cw (km κ) cs I J W) h (fun _ => rfl) (fun _ e => m_141 (d := d) e) fun q9 h =>
  tt_R 1 (fun r => (.inl (some (.long r)))) (fun r => (cw (km κ) cs I J W)) h (fun _ => rfl)) (fun e8 h =>
  tt_T (L1 := bk_142_10) (9 : Int32) h (fun _ => rfl) (fun h =>
  tt_C (L1 := (bk_142_10.drop 6)) 6 [some (.int x0)] [] (cw (km κ) cs I J W) h (fun _ => rfl) (fun _ e => m_141 (d := d) e) fun q10 h =>
  tt_R 1 (fun r => (.inl (some (.long r)))) (fun r => (cw (km κ) cs I J W)) h (fun _ => rfl)) (fun e9 h =>
  tt_T (L1 := bk_142_11) (10 : Int32) h (fun _ => rfl) (fun h =>
  tt_C (L1 := (bk_142_11.drop 6)) 6 [some (.int x0)] [] (cw (km κ) cs I J W) h (fun _ => rfl) (fun _ e => m_141 (d := d) e) fun q11 h =>
  tt_R 1 (fun r => (.inl (some (.long r)))) (fun r => (cw (km κ) cs I J W)) h (fun _ => rfl)) (fun e10 h =>
  tt_T (L1 := bk_142_12) (11 : Int32) h (fun _ => rfl) (fun h =>
  tt_C (L1 := (bk_142_12.drop 6)) 6 [some (.int x0)] [] (cw (km κ) cs I J W) h (fun _ => rfl) (fun _ e => m_141 (d := d) e) fun q12 h =>
  tt_R 1 (fun r => (.inl (some (.long r)))) (fun r => (cw (km κ) cs I J W)) h (fun _ => rfl)) (fun e11 h =>
  tt_T (L1 := bk_142_13) (12 : Int32) h (fun _ => rfl) (fun h =>
  tt_C (L1 := (bk_142_13.drop 6)) 6 [some (.int x0)] [] (cw (km κ) cs I J W) h (fun _ => rfl) (fun _ e => m_141 (d := d) e) fun q13 h =>
  tt_R 1 (fun r => (.inl (some (.long r)))) (fun r => (cw (km κ) cs I J W)) h (fun _ => rfl)) (fun e12 h =>
  tt_T (L1 := bk_142_14) (13 : Int32) h (fun _ => rfl) (fun h =>
  tt_C (L1 := (bk_142_14.drop 6)) 6 [some (.int x0)] [] (cw (km κ) cs I J W) h (fun _ => rfl) (fun _ e => m_141 (d := d) e) fun q14 h =>
  tt_R 1 (fun r => (.inl (some (.long r)))) (fun r => (cw (km κ) cs I J W)) h (fun _ => rfl)) (fun e13 h =>
  tt_T (L1 := bk_142_15) (14 : Int32) h (fun _ => rfl) (fun h =>
  tt_C (L1 := (bk_142_15.drop 6)) 6 [some (.int x0)] [] (cw (km κ) cs I J W) h (fun _ => rfl) (fun _ e => m_141 (d := d) e) fun q15 h =>
  tt_R 1 (fun r => (.inl (some (.long r)))) (fun r => (cw (km κ) cs I J W)) h (fun _ => rfl)) (fun e14 h =>
  tt_T0 (by have e0 := nev e0 (show ((0 : Int32)).toInt = 0 from rfl); have e1 := nev e1 (show ((1 : Int32)).toInt = 1 from rfl); have e2 := nev e2 (show ((2 : Int32)).toInt = 2 from rfl); have e3 := nev e3 (show ((3 : Int32)).toInt = 3 from rfl); have e4 := nev e4 (show ((4 : Int32)).toInt = 4 from rfl); have e5 := nev e5 (show ((5 : Int32)).toInt = 5 from rfl); have e6 := nev e6 (show ((6 : Int32)).toInt = 6 from rfl); have e7 := nev e7 (show ((7 : Int32)).toInt = 7 from rfl); have e8 := nev e8 (show ((8 : Int32)).toInt = 8 from rfl); have e9 := nev e9 (show ((9 : Int32)).toInt = 9 from rfl); have e10 := nev e10 (show ((10 : Int32)).toInt = 10 from rfl); have e11 := nev e11 (show ((11 : Int32)).toInt = 11 from rfl); have e12 := nev e12 (show ((12 : Int32)).toInt = 12 from rfl); have e13 := nev e13 (show ((13 : Int32)).toInt = 13 from rfl); have e14 := nev e14 (show ((14 : Int32)).toInt = 14 from rfl); omega) (
  tt_C (L1 := (bk_142_16.drop 6)) 6 [some (.int x0)] [] (cw (km κ) cs I J W) h (fun _ => rfl) (fun _ e => m_141 (d := d) e) fun q16 h =>
  tt_R 1 (fun r => (.inl (some (.long r)))) (fun r => (cw (km κ) cs I J W)) h (fun _ => rfl)))))))))))))))))))
/- 143 -/
def lb_143_1 (I : (Nat → Nat → Int32)) (J : (Nat → Nat → Int64)) : Option Int32 :=
  (some ((-1) : Int32))
def bd_143_3 (c3 : Int32 → (Nat → Nat → Int32) → (Nat → Nat → Int64) → Option Int32) (x1 : Int32) (I : (Nat → Nat → Int32)) (J : (Nat → Nat → Int64)) : Option Int32 :=
  (if x1 < (16 : Int32) then ((f_142 x1 ).bind fun q1 => (if (lg_cmp q1 (J 97 22)) = 0 then (some x1) else (c3 (x1 + (1 : Int32)) I J))) else (some ((-1) : Int32)))
def lb_143_3 : Int32 → (Nat → Nat → Int32) → (Nat → Nat → Int64) → Option Int32 := fx (fun _ _ _ => none) (bd_143_3 ) FU
def f_143 (I : (Nat → Nat → Int32)) (J : (Nat → Nat → Int64)) : Option Int32 :=
  (if (I 97 17) = (1 : Int32) then (if (5 : Int32) < (I 97 19) then (lb_143_1   I J) else (lb_143_3  (0 : Int32) I J)) else (lb_143_1   I J))
theorem tl_143_1 {d : Nat} {κ : KT} {cs : Nat × Nat} {W : Nat} (I : (Nat → Nat → Int32)) (J : (Nat → Nat → Int64)) (r : Int32) (h : lb_143_1   I J = some r) : tt (d + 2) me_143 bk_143_1 [none, none] [] (cw (km κ) cs I J W) (.inl (some (.int r))) (cw (km κ) cs I J W) :=
  tt_R 2 (fun r => (.inl (some (.int r)))) (fun r => (cw (km κ) cs I J W)) h (fun _ => rfl)
theorem tb_143_3 {d : Nat} {κ : KT} {cs : Nat × Nat} {W : Nat} (c3 : Int32 → (Nat → Nat → Int32) → (Nat → Nat → Int64) → Option Int32) (k3 : ∀ (x1 : Int32) (I : (Nat → Nat → Int32)) (J : (Nat → Nat → Int64)) (r : Int32), c3 x1 I J = some r → tt (d + 2) me_143 bk_143_3 [some (.ref 97), some (.int x1)] [] (cw (km κ) cs I J W) (.inl (some (.int r))) (cw (km κ) cs I J W)) (x1 : Int32) (I : (Nat → Nat → Int32)) (J : (Nat → Nat → Int64)) (r : Int32) (h : bd_143_3  c3 x1 I J = some r) : tt (d + 2) me_143 bk_143_3 [some (.ref 97), some (.int x1)] [] (cw (km κ) cs I J W) (.inl (some (.int r))) (cw (km κ) cs I J W) :=
  tt_I (L1 := (bk_143_3.drop 3)) (L2 := bk_143_5) 3 [some (.ref 97), some (.int x1)] [] (cw (km κ) cs I J W) h (fun _ => rfl) (fun h =>
  tt_C (L1 := (bk_143_3.drop 5)) 2 [some (.ref 97), some (.int x1)] [] (cw (km κ) cs I J W) h (fun _ => rfl) (fun _ e => m_142 (d := d) e) fun q1 h =>
  tt_I (L1 := (bk_143_3.drop 9)) (L2 := bk_143_4) 4 [some (.ref 97), some (.int x1)] [] (cw (km κ) cs I J W) h (fun _ => rfl) (fun h =>
  tt_R 2 (fun r => (.inl (some (.int r)))) (fun r => (cw (km κ) cs I J W)) h (fun _ => rfl)) (fun h =>
  tt_J (L1 := bk_143_3) 1 [some (.ref 97), some (.int (x1 + (1 : Int32)))] [] (cw (km κ) cs I J W) (fun _ => rfl) (tt_F [some (.ref 97), some (.int (x1 + (1 : Int32)))] (And.intro rfl (And.intro rfl trivial)) (k3 (x1 + (1 : Int32)) I J _ h)))) (fun h =>
  tt_R 2 (fun r => (.inl (some (.int r)))) (fun r => (cw (km κ) cs I J W)) h (fun _ => rfl))
theorem tn_143_3 {d : Nat} {κ : KT} {cs : Nat × Nat} {W : Nat} : ∀ (n : Nat) (x1 : Int32) (I : (Nat → Nat → Int32)) (J : (Nat → Nat → Int64)) (r : Int32), fx (fun _ _ _ => none) (bd_143_3 ) n x1 I J = some r → tt (d + 2) me_143 bk_143_3 [some (.ref 97), some (.int x1)] [] (cw (km κ) cs I J W) (.inl (some (.int r))) (cw (km κ) cs I J W)
  | 0 => fun _ _ _ _ h => nomatch h
  | n + 1 => fun x1 I J r h => tb_143_3  (fx _ (bd_143_3 ) n) (tn_143_3  n) x1 I J r h
theorem tl_143_3 {d : Nat} {κ : KT} {cs : Nat × Nat} {W : Nat} (x1 : Int32) (I : (Nat → Nat → Int32)) (J : (Nat → Nat → Int64)) (r : Int32) (h : lb_143_3  x1 I J = some r) : tt (d + 2) me_143 bk_143_3 [some (.ref 97), some (.int x1)] [] (cw (km κ) cs I J W) (.inl (some (.int r))) (cw (km κ) cs I J W) := tn_143_3  FU x1 I J r h
theorem m_143 {d : Nat} {κ : KT} {cs : Nat × Nat} {W : Nat} {I : (Nat → Nat → Int32)} {J : (Nat → Nat → Int64)} {r : Int32} (h : f_143  I J = some r) : tm (d + 2) 143 [.ref 97] (cw (km κ) cs I J W) (.inl (some (.int r))) (cw (km κ) cs I J W) :=
  tm_of me_143 rfl (Nat.le_of_ble_eq_true rfl) (
  tt_I (L1 := (bk_143_0.drop 4)) (L2 := bk_143_1) 4 [some (.ref 97), none] [] (cw (km κ) cs I J W) h (fun _ => rfl) (fun h =>
  tt_I (L1 := bk_143_1) (L2 := bk_143_2) 4 [some (.ref 97), none] [] (cw (km κ) cs I J W) h (fun _ => rfl) (fun h =>
  tt_F [none, none] trivial (tl_143_1   I J _ h)) (fun h =>
  tt_J (L1 := bk_143_3) 1 [some (.ref 97), some (.int (0 : Int32))] [] (cw (km κ) cs I J W) (fun _ => rfl) (tt_F [some (.ref 97), some (.int (0 : Int32))] (And.intro rfl (And.intro rfl trivial)) (tl_143_3  (0 : Int32) I J _ h)))) (fun h =>
  tt_F [none, none] trivial (tl_143_1   I J _ h)))
