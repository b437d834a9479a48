/-! functions, by wip/whole/sy.py -/
/- 205 -/
def lb_205_10 (s0 : Int32) (I : (Nat → Nat → Int32)) : Option (Int32 × (Nat → Nat → Int32)) :=
  (some (s0, I))
def lb_205_7 (c5 : Int32 → Int32 → Int32 → Int32 → (Nat → Nat → Int32) → Option (Int32 × (Nat → Nat → Int32))) (x1 : Int32) (x2 : Int32) (x3 : Int32) (x4 : Int32) (I : (Nat → Nat → Int32)) : Option (Int32 × (Nat → Nat → Int32)) :=
  (c5 x1 x2 x3 (x4 + (1 : Int32)) I)
def bd_205_5 (c5 : Int32 → Int32 → Int32 → Int32 → (Nat → Nat → Int32) → Option (Int32 × (Nat → Nat → Int32))) (x1 : Int32) (x2 : Int32) (x3 : Int32) (x4 : Int32) (I : (Nat → Nat → Int32)) : Option (Int32 × (Nat → Nat → Int32)) :=
  (if x4 < (1296 : Int32) then ((f_193 (x4 / (216 : Int32)) ((x4 / (36 : Int32)) - (x4 / (36 : Int32)) / (6 : Int32) * (6 : Int32)) ((x4 / (6 : Int32)) - (x4 / (6 : Int32)) / (6 : Int32) * (6 : Int32)) (x4 - x4 / (6 : Int32) * (6 : Int32)) I).bind fun q3 => (if q3 = 0 then (lb_205_7 c5 x1 x2 x3 x4 I) else ((f_204 (x4 / (216 : Int32)) ((x4 / (36 : Int32)) - (x4 / (36 : Int32)) / (6 : Int32) * (6 : Int32)) ((x4 / (6 : Int32)) - (x4 / (6 : Int32)) / (6 : Int32) * (6 : Int32)) (x4 - x4 / (6 : Int32) * (6 : Int32)) I).bind fun q4 => (if q4.1 = 0 then (lb_205_7 c5 x1 x2 x3 x4 q4.2) else (if x3 = ((-1) : Int32) then (lb_205_7 c5 x1 (x2 + (1 : Int32)) x4 x4 q4.2) else (lb_205_7 c5 x1 (x2 + (1 : Int32)) x3 x4 q4.2)))))) else (if x1 = 0 then (lb_205_10  x2 I) else (lb_205_10  x3 I)))
def lb_205_5 : Int32 → Int32 → Int32 → Int32 → (Nat → Nat → Int32) → Option (Int32 × (Nat → Nat → Int32)) := fx (fun _ _ _ _ _ => none) (bd_205_5 ) FU
def lb_205_3 (x1 : Int32) (s1 : Int32) (I : (Nat → Nat → Int32)) : Option (Int32 × (Nat → Nat → Int32)) :=
  ((f_132 s1 (1 : Int32) I).bind fun q2 => (if q2.1 = 0 then (some ((0 : Int32), q2.2)) else (lb_205_5  x1 (0 : Int32) ((-1) : Int32) (0 : Int32) q2.2)))
def lb_205_1 (x1 : Int32) (I : (Nat → Nat → Int32)) : Option (Int32 × (Nat → Nat → Int32)) :=
  (lb_205_3  x1 (1 : Int32) I)
def f_205 (x1 : Int32) (I : (Nat → Nat → Int32)) : Option (Int32 × (Nat → Nat → Int32)) :=
  (let I1 := up I 97 0 (0 : Int32)
  (if x1 = 0 then (lb_205_1  x1 I1) else (if x1 = (1 : Int32) then (lb_205_1  x1 I1) else (lb_205_3  x1 (0 : Int32) I1))))
theorem tl_205_10 {d : Nat} {κ : KT} {cs : Nat × Nat} {J : Nat → Nat → Int64} {W : Nat} (s0 : Int32) (I : (Nat → Nat → Int32)) (r : (Int32 × (Nat → Nat → Int32))) (h : lb_205_10  s0 I = some r) : tt (d + 3) me_205 bk_205_10 [none, none, none, none, none] [.int s0] (cw (km κ) cs I J W) (.inl (some (.int r.1))) (cw (km κ) cs r.2 J W) :=
  tt_R 1 (fun r => (.inl (some (.int r.1)))) (fun r => (cw (km κ) cs r.2 J W)) h (fun _ => rfl)
theorem tl_205_7 {d : Nat} {κ : KT} {cs : Nat × Nat} {J : Nat → Nat → Int64} {W : Nat} (c5 : Int32 → Int32 → Int32 → Int32 → (Nat → Nat → Int32) → Option (Int32 × (Nat → Nat → Int32))) (k5 : ∀ (x1 : Int32) (x2 : Int32) (x3 : Int32) (x4 : Int32) (I : (Nat → Nat → Int32)) (r : (Int32 × (Nat → Nat → Int32))), c5 x1 x2 x3 x4 I = some r → tt (d + 3) me_205 bk_205_5 [some (.ref 97), some (.int x1), some (.int x2), some (.int x3), some (.int x4)] [] (cw (km κ) cs I J W) (.inl (some (.int r.1))) (cw (km κ) cs r.2 J W)) (x1 : Int32) (x2 : Int32) (x3 : Int32) (x4 : Int32) (I : (Nat → Nat → Int32)) (r : (Int32 × (Nat → Nat → Int32))) (h : lb_205_7 c5 x1 x2 x3 x4 I = some r) : tt (d + 3) me_205 bk_205_7 [some (.ref 97), some (.int x1), some (.int x2), some (.int x3), some (.int x4)] [] (cw (km κ) cs I J W) (.inl (some (.int r.1))) (cw (km κ) cs r.2 J W) :=
  tt_J (L1 := bk_205_5) 1 [some (.ref 97), some (.int x1), some (.int x2), some (.int x3), some (.int (x4 + (1 : Int32)))] [] (cw (km κ) cs I J W) (fun _ => rfl) (tt_F [some (.ref 97), some (.int x1), some (.int x2), some (.int x3), some (.int (x4 + (1 : Int32)))] (And.intro rfl (And.intro rfl (And.intro rfl (And.intro rfl (And.intro rfl trivial))))) (k5 x1 x2 x3 (x4 + (1 : Int32)) I _ h))
theorem tb_205_5 {d : Nat} {κ : KT} {cs : Nat × Nat} {J : Nat → Nat → Int64} {W : Nat} (c5 : Int32 → Int32 → Int32 → Int32 → (Nat → Nat → Int32) → Option (Int32 × (Nat → Nat → Int32))) (k5 : ∀ (x1 : Int32) (x2 : Int32) (x3 : Int32) (x4 : Int32) (I : (Nat → Nat → Int32)) (r : (Int32 × (Nat → Nat → Int32))), c5 x1 x2 x3 x4 I = some r → tt (d + 3) me_205 bk_205_5 [some (.ref 97), some (.int x1), some (.int x2), some (.int x3), some (.int x4)] [] (cw (km κ) cs I J W) (.inl (some (.int r.1))) (cw (km κ) cs r.2 J W)) (x1 : Int32) (x2 : Int32) (x3 : Int32) (x4 : Int32) (I : (Nat → Nat → Int32)) (r : (Int32 × (Nat → Nat → Int32))) (h : bd_205_5  c5 x1 x2 x3 x4 I = some r) : tt (d + 3) me_205 bk_205_5 [some (.ref 97), some (.int x1), some (.int x2), some (.int x3), some (.int x4)] [] (cw (km κ) cs I J W) (.inl (some (.int r.1))) (cw (km κ) cs r.2 J W) :=
  tt_I (L1 := (bk_205_5.drop 3)) (L2 := bk_205_8) 3 [some (.ref 97), some (.int x1), some (.int x2), some (.int x3), some (.int x4)] [] (cw (km κ) cs I J W) h (fun _ => rfl) (fun h =>
  tt_C (L1 := (bk_205_5.drop 21)) 18 [some (.ref 97), some (.int x1), some (.int x2), some (.int x3), some (.int x4)] [] (cw (km κ) cs I J W) h (fun _ => rfl) (fun _ e => m_193 (d := d + 1) e) fun q3 h =>
  tt_I (L1 := bk_205_7) (L2 := (bk_205_5.drop 22)) 1 [some (.ref 97), some (.int x1), some (.int x2), some (.int x3), some (.int x4)] [] (cw (km κ) cs I J W) h (fun _ => rfl) (fun h =>
  tt_F [some (.ref 97), some (.int x1), some (.int x2), some (.int x3), some (.int x4)] (And.intro rfl (And.intro rfl (And.intro rfl (And.intro rfl (And.intro rfl trivial))))) (tl_205_7 c5 k5 x1 x2 x3 x4 I _ h)) (fun h =>
  tt_C (L1 := (bk_205_5.drop 40)) 18 [some (.ref 97), some (.int x1), some (.int x2), some (.int x3), some (.int x4)] [] (cw (km κ) cs I J W) h (fun _ => rfl) (fun _ e => m_204 (d := d) e) fun q4 h =>
  tt_I (L1 := (bk_205_5.drop 41)) (L2 := bk_205_6) 1 [some (.ref 97), some (.int x1), some (.int x2), some (.int x3), some (.int x4)] [] (cw (km κ) cs q4.2 J W) h (fun _ => rfl) (fun h =>
  tt_J (L1 := bk_205_7) 0 [some (.ref 97), some (.int x1), some (.int x2), some (.int x3), some (.int x4)] [] (cw (km κ) cs q4.2 J W) (fun _ => rfl) (tt_F [some (.ref 97), some (.int x1), some (.int x2), some (.int x3), some (.int x4)] (And.intro rfl (And.intro rfl (And.intro rfl (And.intro rfl (And.intro rfl trivial))))) (tl_205_7 c5 k5 x1 x2 x3 x4 q4.2 _ h))) (fun h =>
  tt_I (L1 := (bk_205_6.drop 4)) (L2 := bk_205_7) 4 [some (.ref 97), some (.int x1), some (.int (x2 + (1 : Int32))), some (.int x3), some (.int x4)] [] (cw (km κ) cs q4.2 J W) h (fun _ => rfl) (fun h =>
  tt_J (L1 := bk_205_7) 1 [some (.ref 97), some (.int x1), some (.int (x2 + (1 : Int32))), some (.int x4), some (.int x4)] [] (cw (km κ) cs q4.2 J W) (fun _ => rfl) (tt_F [some (.ref 97), some (.int x1), some (.int (x2 + (1 : Int32))), some (.int x4), some (.int x4)] (And.intro rfl (And.intro rfl (And.intro rfl (And.intro rfl (And.intro rfl trivial))))) (tl_205_7 c5 k5 x1 (x2 + (1 : Int32)) x4 x4 q4.2 _ h))) (fun h =>
  tt_F [some (.ref 97), some (.int x1), some (.int (x2 + (1 : Int32))), some (.int x3), some (.int x4)] (And.intro rfl (And.intro rfl (And.intro rfl (And.intro rfl (And.intro rfl trivial))))) (tl_205_7 c5 k5 x1 (x2 + (1 : Int32)) x3 x4 q4.2 _ h))))) (fun h =>
  tt_I (L1 := (bk_205_8.drop 2)) (L2 := bk_205_9) 2 [some (.ref 97), some (.int x1), some (.int x2), some (.int x3), some (.int x4)] [] (cw (km κ) cs I J W) h (fun _ => rfl) (fun h =>
  tt_J (L1 := bk_205_10) 1 [some (.ref 97), some (.int x1), some (.int x2), some (.int x3), some (.int x4)] [.int x2] (cw (km κ) cs I J W) (fun _ => rfl) (tt_F [none, none, none, none, none] trivial (tl_205_10  x2 I _ h))) (fun h =>
  tt_J (L1 := bk_205_10) 0 [some (.ref 97), some (.int x1), some (.int x2), some (.int x3), some (.int x4)] [.int x3] (cw (km κ) cs I J W) (fun _ => rfl) (tt_F [none, none, none, none, none] trivial (tl_205_10  x3 I _ h))))
theorem tn_205_5 {d : Nat} {κ : KT} {cs : Nat × Nat} {J : Nat → Nat → Int64} {W : Nat} : ∀ (n : Nat) (x1 : Int32) (x2 : Int32) (x3 : Int32) (x4 : Int32) (I : (Nat → Nat → Int32)) (r : (Int32 × (Nat → Nat → Int32))), fx (fun _ _ _ _ _ => none) (bd_205_5 ) n x1 x2 x3 x4 I = some r → tt (d + 3) me_205 bk_205_5 [some (.ref 97), some (.int x1), some (.int x2), some (.int x3), some (.int x4)] [] (cw (km κ) cs I J W) (.inl (some (.int r.1))) (cw (km κ) cs r.2 J W)
  | 0 => fun _ _ _ _ _ _ h => nomatch h
  | n + 1 => fun x1 x2 x3 x4 I r h => tb_205_5  (fx _ (bd_205_5 ) n) (tn_205_5  n) x1 x2 x3 x4 I r h
theorem tl_205_5 {d : Nat} {κ : KT} {cs : Nat × Nat} {J : Nat → Nat → Int64} {W : Nat} (x1 : Int32) (x2 : Int32) (x3 : Int32) (x4 : Int32) (I : (Nat → Nat → Int32)) (r : (Int32 × (Nat → Nat → Int32))) (h : lb_205_5  x1 x2 x3 x4 I = some r) : tt (d + 3) me_205 bk_205_5 [some (.ref 97), some (.int x1), some (.int x2), some (.int x3), some (.int x4)] [] (cw (km κ) cs I J W) (.inl (some (.int r.1))) (cw (km κ) cs r.2 J W) := tn_205_5  FU x1 x2 x3 x4 I r h
theorem tl_205_3 {d : Nat} {κ : KT} {cs : Nat × Nat} {J : Nat → Nat → Int64} {W : Nat} (x1 : Int32) (s1 : Int32) (I : (Nat → Nat → Int32)) (r : (Int32 × (Nat → Nat → Int32))) (h : lb_205_3  x1 s1 I = some r) : tt (d + 3) me_205 bk_205_3 [some (.ref 97), some (.int x1), none, none, none] [.int s1, .ref 97] (cw (km κ) cs I J W) (.inl (some (.int r.1))) (cw (km κ) cs r.2 J W) :=
  tt_C (L1 := (bk_205_3.drop 2)) 2 [some (.ref 97), some (.int x1), none, none, none] [] (cw (km κ) cs I J W) h (fun _ => rfl) (fun _ e => m_132 (d := d + 2) e) fun q2 h =>
  tt_I (L1 := (bk_205_3.drop 3)) (L2 := bk_205_4) 1 [some (.ref 97), some (.int x1), none, none, none] [] (cw (km κ) cs q2.2 J W) h (fun _ => rfl) (fun h =>
  tt_R 2 (fun r => (.inl (some (.int r.1)))) (fun r => (cw (km κ) cs r.2 J W)) h (fun _ => rfl)) (fun h =>
  tt_J (L1 := bk_205_5) 5 [some (.ref 97), some (.int x1), some (.int (0 : Int32)), some (.int ((-1) : Int32)), some (.int (0 : Int32))] [] (cw (km κ) cs q2.2 J W) (fun _ => rfl) (tt_F [some (.ref 97), some (.int x1), some (.int (0 : Int32)), some (.int ((-1) : Int32)), some (.int (0 : Int32))] (And.intro rfl (And.intro rfl (And.intro rfl (And.intro rfl (And.intro rfl trivial))))) (tl_205_5  x1 (0 : Int32) ((-1) : Int32) (0 : Int32) q2.2 _ h)))
theorem tl_205_1 {d : Nat} {κ : KT} {cs : Nat × Nat} {J : Nat → Nat → Int64} {W : Nat} (x1 : Int32) (I : (Nat → Nat → Int32)) (r : (Int32 × (Nat → Nat → Int32))) (h : lb_205_1  x1 I = some r) : tt (d + 3) me_205 bk_205_1 [some (.ref 97), some (.int x1), none, none, none] [.ref 97] (cw (km κ) cs I J W) (.inl (some (.int r.1))) (cw (km κ) cs r.2 J W) :=
  tt_J (L1 := bk_205_3) 1 [some (.ref 97), some (.int x1), none, none, none] [.int (1 : Int32), .ref 97] (cw (km κ) cs I J W) (fun _ => rfl) (tt_F [some (.ref 97), some (.int x1), none, none, none] (And.intro rfl (And.intro rfl trivial)) (tl_205_3  x1 (1 : Int32) I _ h))
theorem m_205 {d : Nat} {κ : KT} {cs : Nat × Nat} {J : Nat → Nat → Int64} {W : Nat} {x1 : Int32} {I : (Nat → Nat → Int32)} {r : (Int32 × (Nat → Nat → Int32))} (h : f_205 x1 I = some r) : tm (d + 3) 205 [.ref 97, .int x1] (cw (km κ) cs I J W) (.inl (some (.int r.1))) (cw (km κ) cs r.2 J W) :=
  tm_of me_205 rfl (Nat.le_of_ble_eq_true rfl) (
  let I1 := up I 97 0 (0 : Int32)
  tt_I (L1 := bk_205_1) (L2 := (bk_205_0.drop 6)) 6 [some (.ref 97), some (.int x1), none, none, none] [.ref 97] (cw (km κ) cs I1 J W) h (fun _ => rfl) (fun h =>
  tt_F [some (.ref 97), some (.int x1), none, none, none] (And.intro rfl (And.intro rfl trivial)) (tl_205_1  x1 I1 _ h)) (fun h =>
  tt_I (L1 := bk_205_1) (L2 := bk_205_2) 3 [some (.ref 97), some (.int x1), none, none, none] [.ref 97] (cw (km κ) cs I1 J W) h (fun _ => rfl) (fun h =>
  tt_F [some (.ref 97), some (.int x1), none, none, none] (And.intro rfl (And.intro rfl trivial)) (tl_205_1  x1 I1 _ h)) (fun h =>
  tt_J (L1 := bk_205_3) 0 [some (.ref 97), some (.int x1), none, none, none] [.int (0 : Int32), .ref 97] (cw (km κ) cs I1 J W) (fun _ => rfl) (tt_F [some (.ref 97), some (.int x1), none, none, none] (And.intro rfl (And.intro rfl trivial)) (tl_205_3  x1 (0 : Int32) I1 _ h)))))
/- 206 -/
def lb_206_1 (I : (Nat → Nat → Int32)) : Option (Int32 × (Nat → Nat → Int32)) :=
  (some ((0 : Int32), I))
def lb_206_5 (c3 : Int32 → Int32 → Int32 → Int32 → (Nat → Nat → Int32) → Option (Int32 × (Nat → Nat → Int32))) (x2 : Int32) (x4 : Int32) (x6 : Int32) (s0 : Int32) (s1 : Int32) (I : (Nat → Nat → Int32)) : Option (Int32 × (Nat → Nat → Int32)) :=
  (c3 x2 x4 (s0 + s1) (x6 + (1 : Int32)) I)
def bd_206_3 (c3 : Int32 → Int32 → Int32 → Int32 → (Nat → Nat → Int32) → Option (Int32 × (Nat → Nat → Int32))) (x2 : Int32) (x4 : Int32) (x5 : Int32) (x6 : Int32) (I : (Nat → Nat → Int32)) : Option (Int32 × (Nat → Nat → Int32)) :=
  (if x6 < x2 then (if (I 97 1) = 0 then none else (if ex_in (((((x4 * (1103515245 : Int32)) + (12345 : Int32)) >>> ((16 : Int32) &&& 31)) &&& (32767 : Int32)) - ((((x4 * (1103515245 : Int32)) + (12345 : Int32)) >>> ((16 : Int32) &&& 31)) &&& (32767 : Int32)) / (I 97 1) * (I 97 1)) 60 then (if (I 116 ((((((x4 * (1103515245 : Int32)) + (12345 : Int32)) >>> ((16 : Int32) &&& 31)) &&& (32767 : Int32)) - ((((x4 * (1103515245 : Int32)) + (12345 : Int32)) >>> ((16 : Int32) &&& 31)) &&& (32767 : Int32)) / (I 97 1) * (I 97 1))).toNatClampNeg) = (I 97 5) then (lb_206_5 c3 x2 ((x4 * (1103515245 : Int32)) + (12345 : Int32)) x6 x5 (1 : Int32) I) else (lb_206_5 c3 x2 ((x4 * (1103515245 : Int32)) + (12345 : Int32)) x6 x5 (0 : Int32) I)) else none)) else (some (x5, I)))
def lb_206_3 : Int32 → Int32 → Int32 → Int32 → (Nat → Nat → Int32) → Option (Int32 × (Nat → Nat → Int32)) := fx (fun _ _ _ _ _ => none) (bd_206_3 ) FU
def f_206 (x1 : Int32) (x2 : Int32) (x3 : Int32) (I : (Nat → Nat → Int32)) : Option (Int32 × (Nat → Nat → Int32)) :=
  (let I1 := up I 97 0 (0 : Int32)
  ((f_133 x2 (0 : Int32) (60 : Int32) ).bind fun q2 => ((f_132 q2 (1 : Int32) I1).bind fun q3 => (if q3.1 = 0 then (lb_206_1   q3.2) else ((f_178 x3 (1 : Int32) q3.2).bind fun q4 => (if q4.1 = 0 then (lb_206_1   q4.2) else ((f_183 x3 q4.2).bind fun q5 => (lb_206_3  x2 x1 (0 : Int32) (0 : Int32) q5))))))))
theorem tl_206_1 {d : Nat} {κ : KT} {cs : Nat × Nat} {J : Nat → Nat → Int64} {W : Nat} (I : (Nat → Nat → Int32)) (r : (Int32 × (Nat → Nat → Int32))) (h : lb_206_1   I = some r) : tt (d + 4) me_206 bk_206_1 [none, none, none, none, none, none, none] [] (cw (km κ) cs I J W) (.inl (some (.int r.1))) (cw (km κ) cs r.2 J W) :=
  tt_R 2 (fun r => (.inl (some (.int r.1)))) (fun r => (cw (km κ) cs r.2 J W)) h (fun _ => rfl)
theorem tl_206_5 {d : Nat} {κ : KT} {cs : Nat × Nat} {J : Nat → Nat → Int64} {W : Nat} (c3 : Int32 → Int32 → Int32 → Int32 → (Nat → Nat → Int32) → Option (Int32 × (Nat → Nat → Int32))) (k3 : ∀ (x2 : Int32) (x4 : Int32) (x5 : Int32) (x6 : Int32) (I : (Nat → Nat → Int32)) (r : (Int32 × (Nat → Nat → Int32))), c3 x2 x4 x5 x6 I = some r → tt (d + 4) me_206 bk_206_3 [some (.ref 97), none, some (.int x2), none, some (.int x4), some (.int x5), some (.int x6)] [] (cw (km κ) cs I J W) (.inl (some (.int r.1))) (cw (km κ) cs r.2 J W)) (x2 : Int32) (x4 : Int32) (x6 : Int32) (s0 : Int32) (s1 : Int32) (I : (Nat → Nat → Int32)) (r : (Int32 × (Nat → Nat → Int32))) (h : lb_206_5 c3 x2 x4 x6 s0 s1 I = some r) : tt (d + 4) me_206 bk_206_5 [some (.ref 97), none, some (.int x2), none, some (.int x4), none, some (.int x6)] [.int s1, .int s0] (cw (km κ) cs I J W) (.inl (some (.int r.1))) (cw (km κ) cs r.2 J W) :=
  tt_J (L1 := bk_206_3) 3 [some (.ref 97), none, some (.int x2), none, some (.int x4), some (.int (s0 + s1)), some (.int (x6 + (1 : Int32)))] [] (cw (km κ) cs I J W) (fun _ => rfl) (tt_F [some (.ref 97), none, some (.int x2), none, some (.int x4), some (.int (s0 + s1)), some (.int (x6 + (1 : Int32)))] (And.intro rfl (And.intro rfl (And.intro rfl (And.intro rfl (And.intro rfl trivial))))) (k3 x2 x4 (s0 + s1) (x6 + (1 : Int32)) I _ h))
theorem tb_206_3 {d : Nat} {κ : KT} {cs : Nat × Nat} {J : Nat → Nat → Int64} {W : Nat} (c3 : Int32 → Int32 → Int32 → Int32 → (Nat → Nat → Int32) → Option (Int32 × (Nat → Nat → Int32))) (k3 : ∀ (x2 : Int32) (x4 : Int32) (x5 : Int32) (x6 : Int32) (I : (Nat → Nat → Int32)) (r : (Int32 × (Nat → Nat → Int32))), c3 x2 x4 x5 x6 I = some r → tt (d + 4) me_206 bk_206_3 [some (.ref 97), none, some (.int x2), none, some (.int x4), some (.int x5), some (.int x6)] [] (cw (km κ) cs I J W) (.inl (some (.int r.1))) (cw (km κ) cs r.2 J W)) (x2 : Int32) (x4 : Int32) (x5 : Int32) (x6 : Int32) (I : (Nat → Nat → Int32)) (r : (Int32 × (Nat → Nat → Int32))) (h : bd_206_3  c3 x2 x4 x5 x6 I = some r) : tt (d + 4) me_206 bk_206_3 [some (.ref 97), none, some (.int x2), none, some (.int x4), some (.int x5), some (.int x6)] [] (cw (km κ) cs I J W) (.inl (some (.int r.1))) (cw (km κ) cs r.2 J W) :=
  tt_I (L1 := (bk_206_3.drop 3)) (L2 := bk_206_6) 3 [some (.ref 97), none, some (.int x2), none, some (.int x4), some (.int x5), some (.int x6)] [] (cw (km κ) cs I J W) h (fun _ => rfl) (fun h =>
  tt_J (L1 := (bk_206_3.drop 19)) 15 [some (.ref 97), none, some (.int x2), none, some (.int ((x4 * (1103515245 : Int32)) + (12345 : Int32))), some (.int x5), some (.int x6)] [.int (I 97 1), .int ((((x4 * (1103515245 : Int32)) + (12345 : Int32)) >>> ((16 : Int32) &&& 31)) &&& (32767 : Int32)), .ref 116, .int x5] (cw (km κ) cs I J W) (fun _ => rfl) (
  tt_Dr h fun h =>
  tt_Qi rfl h fun h =>
  tt_I (L1 := (bk_206_3.drop 24)) (L2 := bk_206_4) 3 [some (.ref 97), none, some (.int x2), none, some (.int ((x4 * (1103515245 : Int32)) + (12345 : Int32))), some (.int x5), some (.int x6)] [.int x5] (cw (km κ) cs I J W) h (fun _ => rfl) (fun h =>
  tt_J (L1 := bk_206_5) 1 [some (.ref 97), none, some (.int x2), none, some (.int ((x4 * (1103515245 : Int32)) + (12345 : Int32))), some (.int x5), some (.int x6)] [.int (1 : Int32), .int x5] (cw (km κ) cs I J W) (fun _ => rfl) (tt_F [some (.ref 97), none, some (.int x2), none, some (.int ((x4 * (1103515245 : Int32)) + (12345 : Int32))), none, some (.int x6)] (And.intro rfl (And.intro rfl (And.intro rfl (And.intro rfl trivial)))) (tl_206_5 c3 k3 x2 ((x4 * (1103515245 : Int32)) + (12345 : Int32)) x6 x5 (1 : Int32) I _ h))) (fun h =>
  tt_J (L1 := bk_206_5) 0 [some (.ref 97), none, some (.int x2), none, some (.int ((x4 * (1103515245 : Int32)) + (12345 : Int32))), some (.int x5), some (.int x6)] [.int (0 : Int32), .int x5] (cw (km κ) cs I J W) (fun _ => rfl) (tt_F [some (.ref 97), none, some (.int x2), none, some (.int ((x4 * (1103515245 : Int32)) + (12345 : Int32))), none, some (.int x6)] (And.intro rfl (And.intro rfl (And.intro rfl (And.intro rfl trivial)))) (tl_206_5 c3 k3 x2 ((x4 * (1103515245 : Int32)) + (12345 : Int32)) x6 x5 (0 : Int32) I _ h))))) (fun h =>
  tt_R 2 (fun r => (.inl (some (.int r.1)))) (fun r => (cw (km κ) cs r.2 J W)) h (fun _ => rfl))
theorem tn_206_3 {d : Nat} {κ : KT} {cs : Nat × Nat} {J : Nat → Nat → Int64} {W : Nat} : ∀ (n : Nat) (x2 : Int32) (x4 : Int32) (x5 : Int32) (x6 : Int32) (I : (Nat → Nat → Int32)) (r : (Int32 × (Nat → Nat → Int32))), fx (fun _ _ _ _ _ => none) (bd_206_3 ) n x2 x4 x5 x6 I = some r → tt (d + 4) me_206 bk_206_3 [some (.ref 97), none, some (.int x2), none, some (.int x4), some (.int x5), some (.int x6)] [] (cw (km κ) cs I J W) (.inl (some (.int r.1))) (cw (km κ) cs r.2 J W)
  | 0 => fun _ _ _ _ _ _ h => nomatch h
  | n + 1 => fun x2 x4 x5 x6 I r h => tb_206_3  (fx _ (bd_206_3 ) n) (tn_206_3  n) x2 x4 x5 x6 I r h
theorem tl_206_3 {d : Nat} {κ : KT} {cs : Nat × Nat} {J : Nat → Nat → Int64} {W : Nat} (x2 : Int32) (x4 : Int32) (x5 : Int32) (x6 : Int32) (I : (Nat → Nat → Int32)) (r : (Int32 × (Nat → Nat → Int32))) (h : lb_206_3  x2 x4 x5 x6 I = some r) : tt (d + 4) me_206 bk_206_3 [some (.ref 97), none, some (.int x2), none, some (.int x4), some (.int x5), some (.int x6)] [] (cw (km κ) cs I J W) (.inl (some (.int r.1))) (cw (km κ) cs r.2 J W) := tn_206_3  FU x2 x4 x5 x6 I r h
theorem m_206 {d : Nat} {κ : KT} {cs : Nat × Nat} {J : Nat → Nat → Int64} {W : Nat} {x1 : Int32} {x2 : Int32} {x3 : Int32} {I : (Nat → Nat → Int32)} {r : (Int32 × (Nat → Nat → Int32))} (h : f_206 x1 x2 x3 I = some r) : tm (d + 4) 206 [.ref 97, .int x1, .int x2, .int x3] (cw (km κ) cs I J W) (.inl (some (.int r.1))) (cw (km κ) cs r.2 J W) :=
  tm_of me_206 rfl (Nat.le_of_ble_eq_true rfl) (
  let I1 := up I 97 0 (0 : Int32)
  tt_C (L1 := (bk_206_0.drop 8)) 8 [some (.ref 97), some (.int x1), some (.int x2), some (.int x3), none, none, none] [.ref 97] (cw (km κ) cs I1 J W) (show ((f_133 x2 (0 : Int32) (60 : Int32) ).bind fun q2 => ((f_132 q2 (1 : Int32) I1).bind fun q3 => (if q3.1 = 0 then (lb_206_1   q3.2) else ((f_178 x3 (1 : Int32) q3.2).bind fun q4 => (if q4.1 = 0 then (lb_206_1   q4.2) else ((f_183 x3 q4.2).bind fun q5 => (lb_206_3  x2 x1 (0 : Int32) (0 : Int32) q5))))))) = some r from h) (fun _ => rfl) (fun _ e => m_133 (d := d + 3) e) fun q2 h =>
  tt_C (L1 := (bk_206_0.drop 10)) 2 [some (.ref 97), some (.int x1), some (.int x2), some (.int x3), none, none, none] [] (cw (km κ) cs I1 J W) h (fun _ => rfl) (fun _ e => m_132 (d := d + 3) e) fun q3 h =>
  tt_I (L1 := bk_206_1) (L2 := (bk_206_0.drop 11)) 1 [some (.ref 97), some (.int x1), some (.int x2), some (.int x3), none, none, none] [] (cw (km κ) cs q3.2 J W) h (fun _ => rfl) (fun h =>
  tt_F [none, none, none, none, none, none, none] trivial (tl_206_1   q3.2 _ h)) (fun h =>
  tt_C (L1 := (bk_206_0.drop 15)) 4 [some (.ref 97), some (.int x1), some (.int x2), some (.int x3), none, none, none] [] (cw (km κ) cs q3.2 J W) h (fun _ => rfl) (fun _ e => m_178 (d := d + 2) e) fun q4 h =>
  tt_I (L1 := bk_206_1) (L2 := bk_206_2) 1 [some (.ref 97), some (.int x1), some (.int x2), some (.int x3), none, none, none] [] (cw (km κ) cs q4.2 J W) h (fun _ => rfl) (fun h =>
  tt_F [none, none, none, none, none, none, none] trivial (tl_206_1   q4.2 _ h)) (fun h =>
  tt_C (L1 := (bk_206_2.drop 3)) 3 [some (.ref 97), some (.int x1), some (.int x2), some (.int x3), none, none, none] [] (cw (km κ) cs q4.2 J W) h (fun _ => rfl) (fun _ e => m_183 (d := d) e) fun q5 h =>
  tt_J (L1 := bk_206_3) 5 [some (.ref 97), some (.int x1), some (.int x2), some (.int x3), some (.int x1), some (.int (0 : Int32)), some (.int (0 : Int32))] [] (cw (km κ) cs q5 J W) (fun _ => rfl) (tt_F [some (.ref 97), none, some (.int x2), none, some (.int x1), some (.int (0 : Int32)), some (.int (0 : Int32))] (And.intro rfl (And.intro rfl (And.intro rfl (And.intro rfl (And.intro rfl trivial))))) (tl_206_3  x2 x1 (0 : Int32) (0 : Int32) q5 _ h)))))
/- 207 -/
def lb_207_6 (x3 : Int32) (I : (Nat → Nat → Int32)) : Option (Int32 × (Nat → Nat → Int32)) :=
  (some (x3, I))
def lb_207_5 (c3 : Int32 → Int32 → Int32 → Int32 → (Nat → Nat → Int32) → Option (Int32 × (Nat → Nat → Int32))) (x1 : Int32) (x2 : Int32) (x3 : Int32) (x4 : Int32) (I : (Nat → Nat → Int32)) : Option (Int32 × (Nat → Nat → Int32)) :=
  (c3 x1 x2 (x3 + (1 : Int32)) (x4 * (3 : Int32)) I)
def bd_207_3 (c3 : Int32 → Int32 → Int32 → Int32 → (Nat → Nat → Int32) → Option (Int32 × (Nat → Nat → Int32))) (x1 : Int32) (x2 : Int32) (x3 : Int32) (x4 : Int32) (I : (Nat → Nat → Int32)) : Option (Int32 × (Nat → Nat → Int32)) :=
  (if x2 = 0 then (if (x4 - (3 : Int32)) < ((2 : Int32) * x1) then (lb_207_5 c3 x1 x2 x3 x4 I) else (lb_207_6  x3 I)) else (if x4 < x1 then (lb_207_5 c3 x1 x2 x3 x4 I) else (lb_207_6  x3 I)))
def lb_207_3 : Int32 → Int32 → Int32 → Int32 → (Nat → Nat → Int32) → Option (Int32 × (Nat → Nat → Int32)) := fx (fun _ _ _ _ _ => none) (bd_207_3 ) FU
def lb_207_2 (x1 : Int32) (x2 : Int32) (I : (Nat → Nat → Int32)) : Option (Int32 × (Nat → Nat → Int32)) :=
  (lb_207_3  x1 x2 (0 : Int32) (1 : Int32) I)
def f_207 (x1 : Int32) (x2 : Int32) (I : (Nat → Nat → Int32)) : Option (Int32 × (Nat → Nat → Int32)) :=
  (let I1 := up I 97 0 (0 : Int32)
  ((f_133 x1 (1 : Int32) (1000 : Int32) ).bind fun q2 => ((f_132 q2 (1 : Int32) I1).bind fun q3 => (if q3.1 = 0 then (some ((0 : Int32), q3.2)) else (if x2 = 0 then (if x1 < (3 : Int32) then (some (((-1) : Int32), q3.2)) else (lb_207_2  x1 x2 q3.2)) else (lb_207_2  x1 x2 q3.2))))))
theorem tl_207_6 {d : Nat} {κ : KT} {cs : Nat × Nat} {J : Nat → Nat → Int64} {W : Nat} (x3 : Int32) (I : (Nat → Nat → Int32)) (r : (Int32 × (Nat → Nat → Int32))) (h : lb_207_6  x3 I = some r) : tt (d + 1) me_207 bk_207_6 [none, none, none, some (.int x3), none] [] (cw (km κ) cs I J W) (.inl (some (.int r.1))) (cw (km κ) cs r.2 J W) :=
  tt_R 2 (fun r => (.inl (some (.int r.1)))) (fun r => (cw (km κ) cs r.2 J W)) h (fun _ => rfl)
theorem tl_207_5 {d : Nat} {κ : KT} {cs : Nat × Nat} {J : Nat → Nat → Int64} {W : Nat} (c3 : Int32 → Int32 → Int32 → Int32 → (Nat → Nat → Int32) → Option (Int32 × (Nat → Nat → Int32))) (k3 : ∀ (x1 : Int32) (x2 : Int32) (x3 : Int32) (x4 : Int32) (I : (Nat → Nat → Int32)) (r : (Int32 × (Nat → Nat → Int32))), c3 x1 x2 x3 x4 I = some r → tt (d + 1) me_207 bk_207_3 [none, some (.int x1), some (.int x2), some (.int x3), some (.int x4)] [] (cw (km κ) cs I J W) (.inl (some (.int r.1))) (cw (km κ) cs r.2 J W)) (x1 : Int32) (x2 : Int32) (x3 : Int32) (x4 : Int32) (I : (Nat → Nat → Int32)) (r : (Int32 × (Nat → Nat → Int32))) (h : lb_207_5 c3 x1 x2 x3 x4 I = some r) : tt (d + 1) me_207 bk_207_5 [none, some (.int x1), some (.int x2), some (.int x3), some (.int x4)] [] (cw (km κ) cs I J W) (.inl (some (.int r.1))) (cw (km κ) cs r.2 J W) :=
  tt_J (L1 := bk_207_3) 5 [none, some (.int x1), some (.int x2), some (.int (x3 + (1 : Int32))), some (.int (x4 * (3 : Int32)))] [] (cw (km κ) cs I J W) (fun _ => rfl) (tt_F [none, some (.int x1), some (.int x2), some (.int (x3 + (1 : Int32))), some (.int (x4 * (3 : Int32)))] (And.intro rfl (And.intro rfl (And.intro rfl (And.intro rfl trivial)))) (k3 x1 x2 (x3 + (1 : Int32)) (x4 * (3 : Int32)) I _ h))
theorem tb_207_3 {d : Nat} {κ : KT} {cs : Nat × Nat} {J : Nat → Nat → Int64} {W : Nat} (c3 : Int32 → Int32 → Int32 → Int32 → (Nat → Nat → Int32) → Option (Int32 × (Nat → Nat → Int32))) (k3 : ∀ (x1 : Int32) (x2 : Int32) (x3 : Int32) (x4 : Int32) (I : (Nat → Nat → Int32)) (r : (Int32 × (Nat → Nat → Int32))), c3 x1 x2 x3 x4 I = some r → tt (d + 1) me_207 bk_207_3 [none, some (.int x1), some (.int x2), some (.int x3), some (.int x4)] [] (cw (km κ) cs I J W) (.inl (some (.int r.1))) (cw (km κ) cs r.2 J W)) (x1 : Int32) (x2 : Int32) (x3 : Int32) (x4 : Int32) (I : (Nat → Nat → Int32)) (r : (Int32 × (Nat → Nat → Int32))) (h : bd_207_3  c3 x1 x2 x3 x4 I = some r) : tt (d + 1) me_207 bk_207_3 [none, some (.int x1), some (.int x2), some (.int x3), some (.int x4)] [] (cw (km κ) cs I J W) (.inl (some (.int r.1))) (cw (km κ) cs r.2 J W) :=
  tt_I (L1 := bk_207_4) (L2 := (bk_207_3.drop 2)) 2 [none, some (.int x1), some (.int x2), some (.int x3), some (.int x4)] [] (cw (km κ) cs I J W) h (fun _ => rfl) (fun h =>
  tt_I (L1 := bk_207_5) (L2 := bk_207_6) 7 [none, some (.int x1), some (.int x2), some (.int x3), some (.int x4)] [] (cw (km κ) cs I J W) h (fun _ => rfl) (fun h =>
  tt_F [none, some (.int x1), some (.int x2), some (.int x3), some (.int x4)] (And.intro rfl (And.intro rfl (And.intro rfl (And.intro rfl trivial)))) (tl_207_5 c3 k3 x1 x2 x3 x4 I _ h)) (fun h =>
  tt_F [none, none, none, some (.int x3), none] (And.intro rfl trivial) (tl_207_6  x3 I _ h))) (fun h =>
  tt_I (L1 := (bk_207_3.drop 5)) (L2 := bk_207_6) 3 [none, some (.int x1), some (.int x2), some (.int x3), some (.int x4)] [] (cw (km κ) cs I J W) h (fun _ => rfl) (fun h =>
  tt_J (L1 := bk_207_5) 0 [none, some (.int x1), some (.int x2), some (.int x3), some (.int x4)] [] (cw (km κ) cs I J W) (fun _ => rfl) (tt_F [none, some (.int x1), some (.int x2), some (.int x3), some (.int x4)] (And.intro rfl (And.intro rfl (And.intro rfl (And.intro rfl trivial)))) (tl_207_5 c3 k3 x1 x2 x3 x4 I _ h))) (fun h =>
  tt_F [none, none, none, some (.int x3), none] (And.intro rfl trivial) (tl_207_6  x3 I _ h)))
theorem tn_207_3 {d : Nat} {κ : KT} {cs : Nat × Nat} {J : Nat → Nat → Int64} {W : Nat} : ∀ (n : Nat) (x1 : Int32) (x2 : Int32) (x3 : Int32) (x4 : Int32) (I : (Nat → Nat → Int32)) (r : (Int32 × (Nat → Nat → Int32))), fx (fun _ _ _ _ _ => none) (bd_207_3 ) n x1 x2 x3 x4 I = some r → tt (d + 1) me_207 bk_207_3 [none, some (.int x1), some (.int x2), some (.int x3), some (.int x4)] [] (cw (km κ) cs I J W) (.inl (some (.int r.1))) (cw (km κ) cs r.2 J W)
  | 0 => fun _ _ _ _ _ _ h => nomatch h
  | n + 1 => fun x1 x2 x3 x4 I r h => tb_207_3  (fx _ (bd_207_3 ) n) (tn_207_3  n) x1 x2 x3 x4 I r h
theorem tl_207_3 {d : Nat} {κ : KT} {cs : Nat × Nat} {J : Nat → Nat → Int64} {W : Nat} (x1 : Int32) (x2 : Int32) (x3 : Int32) (x4 : Int32) (I : (Nat → Nat → Int32)) (r : (Int32 × (Nat → Nat → Int32))) (h : lb_207_3  x1 x2 x3 x4 I = some r) : tt (d + 1) me_207 bk_207_3 [none, some (.int x1), some (.int x2), some (.int x3), some (.int x4)] [] (cw (km κ) cs I J W) (.inl (some (.int r.1))) (cw (km κ) cs r.2 J W) := tn_207_3  FU x1 x2 x3 x4 I r h
theorem tl_207_2 {d : Nat} {κ : KT} {cs : Nat × Nat} {J : Nat → Nat → Int64} {W : Nat} (x1 : Int32) (x2 : Int32) (I : (Nat → Nat → Int32)) (r : (Int32 × (Nat → Nat → Int32))) (h : lb_207_2  x1 x2 I = some r) : tt (d + 1) me_207 bk_207_2 [none, some (.int x1), some (.int x2), none, none] [] (cw (km κ) cs I J W) (.inl (some (.int r.1))) (cw (km κ) cs r.2 J W) :=
  tt_J (L1 := bk_207_3) 3 [none, some (.int x1), some (.int x2), some (.int (0 : Int32)), some (.int (1 : Int32))] [] (cw (km κ) cs I J W) (fun _ => rfl) (tt_F [none, some (.int x1), some (.int x2), some (.int (0 : Int32)), some (.int (1 : Int32))] (And.intro rfl (And.intro rfl (And.intro rfl (And.intro rfl trivial)))) (tl_207_3  x1 x2 (0 : Int32) (1 : Int32) I _ h))
theorem m_207 {d : Nat} {κ : KT} {cs : Nat × Nat} {J : Nat → Nat → Int64} {W : Nat} {x1 : Int32} {x2 : Int32} {I : (Nat → Nat → Int32)} {r : (Int32 × (Nat → Nat → Int32))} (h : f_207 x1 x2 I = some r) : tm (d + 1) 207 [.ref 97, .int x1, .int x2] (cw (km κ) cs I J W) (.inl (some (.int r.1))) (cw (km κ) cs r.2 J W) :=
  tm_of me_207 rfl (Nat.le_of_ble_eq_true rfl) (
  let I1 := up I 97 0 (0 : Int32)
  tt_C (L1 := (bk_207_0.drop 8)) 8 [some (.ref 97), some (.int x1), some (.int x2), none, none] [.ref 97] (cw (km κ) cs I1 J W) (show ((f_133 x1 (1 : Int32) (1000 : Int32) ).bind fun q2 => ((f_132 q2 (1 : Int32) I1).bind fun q3 => (if q3.1 = 0 then (some ((0 : Int32), q3.2)) else (if x2 = 0 then (if x1 < (3 : Int32) then (some (((-1) : Int32), q3.2)) else (lb_207_2  x1 x2 q3.2)) else (lb_207_2  x1 x2 q3.2))))) = some r from h) (fun _ => rfl) (fun _ e => m_133 (d := d) e) fun q2 h =>
  tt_C (L1 := (bk_207_0.drop 10)) 2 [some (.ref 97), some (.int x1), some (.int x2), none, none] [] (cw (km κ) cs I1 J W) h (fun _ => rfl) (fun _ e => m_132 (d := d) e) fun q3 h =>
  tt_I (L1 := (bk_207_0.drop 11)) (L2 := bk_207_1) 1 [some (.ref 97), some (.int x1), some (.int x2), none, none] [] (cw (km κ) cs q3.2 J W) h (fun _ => rfl) (fun h =>
  tt_R 2 (fun r => (.inl (some (.int r.1)))) (fun r => (cw (km κ) cs r.2 J W)) h (fun _ => rfl)) (fun h =>
  tt_I (L1 := (bk_207_1.drop 2)) (L2 := bk_207_2) 2 [some (.ref 97), some (.int x1), some (.int x2), none, none] [] (cw (km κ) cs q3.2 J W) h (fun _ => rfl) (fun h =>
  tt_I (L1 := (bk_207_1.drop 5)) (L2 := bk_207_2) 3 [some (.ref 97), some (.int x1), some (.int x2), none, none] [] (cw (km κ) cs q3.2 J W) h (fun _ => rfl) (fun h =>
  tt_R 2 (fun r => (.inl (some (.int r.1)))) (fun r => (cw (km κ) cs r.2 J W)) h (fun _ => rfl)) (fun h =>
  tt_F [none, some (.int x1), some (.int x2), none, none] (And.intro rfl (And.intro rfl trivial)) (tl_207_2  x1 x2 q3.2 _ h))) (fun h =>
  tt_F [none, some (.int x1), some (.int x2), none, none] (And.intro rfl (And.intro rfl trivial)) (tl_207_2  x1 x2 q3.2 _ h))))
/- 134 -/
def bd_134_97_122_128_1 (c1 : Int32 → (Nat → Nat → Int32) → Option (Nat → Nat → Int32)) (x3 : Int32) (I : (Nat → Nat → Int32)) : Option (Nat → Nat → Int32) :=
  (if x3 < (nI 60) then (if ex_in x3 60 then (if ex_in x3 60 then let I1 := up I 128 (x3).toNatClampNeg (I 122 (x3).toNatClampNeg)
  (c1 (x3 + (1 : Int32)) I1) else none) else none) else (some I))
def lb_134_97_122_128_1 : Int32 → (Nat → Nat → Int32) → Option (Nat → Nat → Int32) := fx (fun _ _ => none) (bd_134_97_122_128_1 ) FU
def f_134_97_122_128 (I : (Nat → Nat → Int32)) : Option (Nat → Nat → Int32) :=
  (lb_134_97_122_128_1  (0 : Int32) I)
theorem tb_134_97_122_128_1 {d : Nat} {κ : KT} {cs : Nat × Nat} {J : Nat → Nat → Int64} {W : Nat} (c1 : Int32 → (Nat → Nat → Int32) → Option (Nat → Nat → Int32)) (k1 : ∀ (x3 : Int32) (I : (Nat → Nat → Int32)) (r : (Nat → Nat → Int32)), c1 x3 I = some r → tt d me_134 bk_134_1 [none, some (.ref 122), some (.ref 128), some (.int x3)] [] (cw (km κ) cs I J W) (.inl none) (cw (km κ) cs r J W)) (x3 : Int32) (I : (Nat → Nat → Int32)) (r : (Nat → Nat → Int32)) (h : bd_134_97_122_128_1  c1 x3 I = some r) : tt d me_134 bk_134_1 [none, some (.ref 122), some (.ref 128), some (.int x3)] [] (cw (km κ) cs I J W) (.inl none) (cw (km κ) cs r J W) :=
  tt_I (L1 := (bk_134_1.drop 4)) (L2 := bk_134_2) 4 [none, some (.ref 122), some (.ref 128), some (.int x3)] [] (cw (km κ) cs I J W) h (fun _ => rfl) (fun h =>
  tt_J (L1 := (bk_134_1.drop 8)) 3 [none, some (.ref 122), some (.ref 128), some (.int x3)] [.int x3, .ref 122, .int x3, .ref 128] (cw (km κ) cs I J W) (fun _ => rfl) (
  tt_Qi rfl h fun h =>
  let I1 := up I 128 (x3).toNatClampNeg (I 122 (x3).toNatClampNeg)
  tt_Wi rfl (Nat.le_of_ble_eq_true rfl) h fun h =>
  tt_J (L1 := bk_134_1) 1 [none, some (.ref 122), some (.ref 128), some (.int (x3 + (1 : Int32)))] [] (cw (km κ) cs I1 J W) (fun _ => rfl) (tt_F [none, some (.ref 122), some (.ref 128), some (.int (x3 + (1 : Int32)))] (And.intro rfl (And.intro rfl (And.intro rfl trivial))) (k1 (x3 + (1 : Int32)) I1 _ h)))) (fun h =>
  tt_R 1 (fun r => (.inl none)) (fun r => (cw (km κ) cs r J W)) h (fun _ => rfl))
theorem tn_134_97_122_128_1 {d : Nat} {κ : KT} {cs : Nat × Nat} {J : Nat → Nat → Int64} {W : Nat} : ∀ (n : Nat) (x3 : Int32) (I : (Nat → Nat → Int32)) (r : (Nat → Nat → Int32)), fx (fun _ _ => none) (bd_134_97_122_128_1 ) n x3 I = some r → tt d me_134 bk_134_1 [none, some (.ref 122), some (.ref 128), some (.int x3)] [] (cw (km κ) cs I J W) (.inl none) (cw (km κ) cs r J W)
  | 0 => fun _ _ _ h => nomatch h
  | n + 1 => fun x3 I r h => tb_134_97_122_128_1  (fx _ (bd_134_97_122_128_1 ) n) (tn_134_97_122_128_1  n) x3 I r h
theorem tl_134_97_122_128_1 {d : Nat} {κ : KT} {cs : Nat × Nat} {J : Nat → Nat → Int64} {W : Nat} (x3 : Int32) (I : (Nat → Nat → Int32)) (r : (Nat → Nat → Int32)) (h : lb_134_97_122_128_1  x3 I = some r) : tt d me_134 bk_134_1 [none, some (.ref 122), some (.ref 128), some (.int x3)] [] (cw (km κ) cs I J W) (.inl none) (cw (km κ) cs r J W) := tn_134_97_122_128_1  FU x3 I r h
theorem m_134_97_122_128 {d : Nat} {κ : KT} {cs : Nat × Nat} {J : Nat → Nat → Int64} {W : Nat} {I : (Nat → Nat → Int32)} {r : (Nat → Nat → Int32)} (h : f_134_97_122_128  I = some r) : tm d 134 [.ref 97, .ref 122, .ref 128] (cw (km κ) cs I J W) (.inl none) (cw (km κ) cs r J W) :=
  tm_of me_134 rfl (Nat.le_of_ble_eq_true rfl) (
  tt_J (L1 := bk_134_1) 1 [some (.ref 97), some (.ref 122), some (.ref 128), some (.int (0 : Int32))] [] (cw (km κ) cs I J W) (fun _ => rfl) (tt_F [none, some (.ref 122), some (.ref 128), some (.int (0 : Int32))] (And.intro rfl (And.intro rfl (And.intro rfl trivial))) (tl_134_97_122_128_1  (0 : Int32) I _ h)))
/- 134 -/
def bd_134_97_123_129_1 (c1 : Int32 → (Nat → Nat → Int32) → Option (Nat → Nat → Int32)) (x3 : Int32) (I : (Nat → Nat → Int32)) : Option (Nat → Nat → Int32) :=
  (if x3 < (nI 60) then (if ex_in x3 60 then (if ex_in x3 60 then let I1 := up I 129 (x3).toNatClampNeg (I 123 (x3).toNatClampNeg)
  (c1 (x3 + (1 : Int32)) I1) else none) else none) else (some I))
def lb_134_97_123_129_1 : Int32 → (Nat → Nat → Int32) → Option (Nat → Nat → Int32) := fx (fun _ _ => none) (bd_134_97_123_129_1 ) FU
def f_134_97_123_129 (I : (Nat → Nat → Int32)) : Option (Nat → Nat → Int32) :=
  (lb_134_97_123_129_1  (0 : Int32) I)
theorem tb_134_97_123_129_1 {d : Nat} {κ : KT} {cs : Nat × Nat} {J : Nat → Nat → Int64} {W : Nat} (c1 : Int32 → (Nat → Nat → Int32) → Option (Nat → Nat → Int32)) (k1 : ∀ (x3 : Int32) (I : (Nat → Nat → Int32)) (r : (Nat → Nat → Int32)), c1 x3 I = some r → tt d me_134 bk_134_1 [none, some (.ref 123), some (.ref 129), some (.int x3)] [] (cw (km κ) cs I J W) (.inl none) (cw (km κ) cs r J W)) (x3 : Int32) (I : (Nat → Nat → Int32)) (r : (Nat → Nat → Int32)) (h : bd_134_97_123_129_1  c1 x3 I = some r) : tt d me_134 bk_134_1 [none, some (.ref 123), some (.ref 129), some (.int x3)] [] (cw (km κ) cs I J W) (.inl none) (cw (km κ) cs r J W) :=
  tt_I (L1 := (bk_134_1.drop 4)) (L2 := bk_134_2) 4 [none, some (.ref 123), some (.ref 129), some (.int x3)] [] (cw (km κ) cs I J W) h (fun _ => rfl) (fun h =>
  tt_J (L1 := (bk_134_1.drop 8)) 3 [none, some (.ref 123), some (.ref 129), some (.int x3)] [.int x3, .ref 123, .int x3, .ref 129] (cw (km κ) cs I J W) (fun _ => rfl) (
  tt_Qi rfl h fun h =>
  let I1 := up I 129 (x3).toNatClampNeg (I 123 (x3).toNatClampNeg)
  tt_Wi rfl (Nat.le_of_ble_eq_true rfl) h fun h =>
  tt_J (L1 := bk_134_1) 1 [none, some (.ref 123), some (.ref 129), some (.int (x3 + (1 : Int32)))] [] (cw (km κ) cs I1 J W) (fun _ => rfl) (tt_F [none, some (.ref 123), some (.ref 129), some (.int (x3 + (1 : Int32)))] (And.intro rfl (And.intro rfl (And.intro rfl trivial))) (k1 (x3 + (1 : Int32)) I1 _ h)))) (fun h =>
  tt_R 1 (fun r => (.inl none)) (fun r => (cw (km κ) cs r J W)) h (fun _ => rfl))
theorem tn_134_97_123_129_1 {d : Nat} {κ : KT} {cs : Nat × Nat} {J : Nat → Nat → Int64} {W : Nat} : ∀ (n : Nat) (x3 : Int32) (I : (Nat → Nat → Int32)) (r : (Nat → Nat → Int32)), fx (fun _ _ => none) (bd_134_97_123_129_1 ) n x3 I = some r → tt d me_134 bk_134_1 [none, some (.ref 123), some (.ref 129), some (.int x3)] [] (cw (km κ) cs I J W) (.inl none) (cw (km κ) cs r J W)
  | 0 => fun _ _ _ h => nomatch h
  | n + 1 => fun x3 I r h => tb_134_97_123_129_1  (fx _ (bd_134_97_123_129_1 ) n) (tn_134_97_123_129_1  n) x3 I r h
theorem tl_134_97_123_129_1 {d : Nat} {κ : KT} {cs : Nat × Nat} {J : Nat → Nat → Int64} {W : Nat} (x3 : Int32) (I : (Nat → Nat → Int32)) (r : (Nat → Nat → Int32)) (h : lb_134_97_123_129_1  x3 I = some r) : tt d me_134 bk_134_1 [none, some (.ref 123), some (.ref 129), some (.int x3)] [] (cw (km κ) cs I J W) (.inl none) (cw (km κ) cs r J W) := tn_134_97_123_129_1  FU x3 I r h
theorem m_134_97_123_129 {d : Nat} {κ : KT} {cs : Nat × Nat} {J : Nat → Nat → Int64} {W : Nat} {I : (Nat → Nat → Int32)} {r : (Nat → Nat → Int32)} (h : f_134_97_123_129  I = some r) : tm d 134 [.ref 97, .ref 123, .ref 129] (cw (km κ) cs I J W) (.inl none) (cw (km κ) cs r J W) :=
  tm_of me_134 rfl (Nat.le_of_ble_eq_true rfl) (
  tt_J (L1 := bk_134_1) 1 [some (.ref 97), some (.ref 123), some (.ref 129), some (.int (0 : Int32))] [] (cw (km κ) cs I J W) (fun _ => rfl) (tt_F [none, some (.ref 123), some (.ref 129), some (.int (0 : Int32))] (And.intro rfl (And.intro rfl (And.intro rfl trivial))) (tl_134_97_123_129_1  (0 : Int32) I _ h)))
/- 134 -/
def bd_134_97_124_130_1 (c1 : Int32 → (Nat → Nat → Int32) → Option (Nat → Nat → Int32)) (x3 : Int32) (I : (Nat → Nat → Int32)) : Option (Nat → Nat → Int32) :=
  (if x3 < (nI 60) then (if ex_in x3 60 then (if ex_in x3 60 then let I1 := up I 130 (x3).toNatClampNeg (I 124 (x3).toNatClampNeg)
  (c1 (x3 + (1 : Int32)) I1) else none) else none) else (some I))
def lb_134_97_124_130_1 : Int32 → (Nat → Nat → Int32) → Option (Nat → Nat → Int32) := fx (fun _ _ => none) (bd_134_97_124_130_1 ) FU
def f_134_97_124_130 (I : (Nat → Nat → Int32)) : Option (Nat → Nat → Int32) :=
  (lb_134_97_124_130_1  (0 : Int32) I)
theorem tb_134_97_124_130_1 {d : Nat} {κ : KT} {cs : Nat × Nat} {J : Nat → Nat → Int64} {W : Nat} (c1 : Int32 → (Nat → Nat → Int32) → Option (Nat → Nat → Int32)) (k1 : ∀ (x3 : Int32) (I : (Nat → Nat → Int32)) (r : (Nat → Nat → Int32)), c1 x3 I = some r → tt d me_134 bk_134_1 [none, some (.ref 124), some (.ref 130), some (.int x3)] [] (cw (km κ) cs I J W) (.inl none) (cw (km κ) cs r J W)) (x3 : Int32) (I : (Nat → Nat → Int32)) (r : (Nat → Nat → Int32)) (h : bd_134_97_124_130_1  c1 x3 I = some r) : tt d me_134 bk_134_1 [none, some (.ref 124), some (.ref 130), some (.int x3)] [] (cw (km κ) cs I J W) (.inl none) (cw (km κ) cs r J W) :=
  tt_I (L1 := (bk_134_1.drop 4)) (L2 := bk_134_2) 4 [none, some (.ref 124), some (.ref 130), some (.int x3)] [] (cw (km κ) cs I J W) h (fun _ => rfl) (fun h =>
  tt_J (L1 := (bk_134_1.drop 8)) 3 [none, some (.ref 124), some (.ref 130), some (.int x3)] [.int x3, .ref 124, .int x3, .ref 130] (cw (km κ) cs I J W) (fun _ => rfl) (
  tt_Qi rfl h fun h =>
  let I1 := up I 130 (x3).toNatClampNeg (I 124 (x3).toNatClampNeg)
  tt_Wi rfl (Nat.le_of_ble_eq_true rfl) h fun h =>
  tt_J (L1 := bk_134_1) 1 [none, some (.ref 124), some (.ref 130), some (.int (x3 + (1 : Int32)))] [] (cw (km κ) cs I1 J W) (fun _ => rfl) (tt_F [none, some (.ref 124), some (.ref 130), some (.int (x3 + (1 : Int32)))] (And.intro rfl (And.intro rfl (And.intro rfl trivial))) (k1 (x3 + (1 : Int32)) I1 _ h)))) (fun h =>
  tt_R 1 (fun r => (.inl none)) (fun r => (cw (km κ) cs r J W)) h (fun _ => rfl))
theorem tn_134_97_124_130_1 {d : Nat} {κ : KT} {cs : Nat × Nat} {J : Nat → Nat → Int64} {W : Nat} : ∀ (n : Nat) (x3 : Int32) (I : (Nat → Nat → Int32)) (r : (Nat → Nat → Int32)), fx (fun _ _ => none) (bd_134_97_124_130_1 ) n x3 I = some r → tt d me_134 bk_134_1 [none, some (.ref 124), some (.ref 130), some (.int x3)] [] (cw (km κ) cs I J W) (.inl none) (cw (km κ) cs r J W)
  | 0 => fun _ _ _ h => nomatch h
  | n + 1 => fun x3 I r h => tb_134_97_124_130_1  (fx _ (bd_134_97_124_130_1 ) n) (tn_134_97_124_130_1  n) x3 I r h
theorem tl_134_97_124_130_1 {d : Nat} {κ : KT} {cs : Nat × Nat} {J : Nat → Nat → Int64} {W : Nat} (x3 : Int32) (I : (Nat → Nat → Int32)) (r : (Nat → Nat → Int32)) (h : lb_134_97_124_130_1  x3 I = some r) : tt d me_134 bk_134_1 [none, some (.ref 124), some (.ref 130), some (.int x3)] [] (cw (km κ) cs I J W) (.inl none) (cw (km κ) cs r J W) := tn_134_97_124_130_1  FU x3 I r h
theorem m_134_97_124_130 {d : Nat} {κ : KT} {cs : Nat × Nat} {J : Nat → Nat → Int64} {W : Nat} {I : (Nat → Nat → Int32)} {r : (Nat → Nat → Int32)} (h : f_134_97_124_130  I = some r) : tm d 134 [.ref 97, .ref 124, .ref 130] (cw (km κ) cs I J W) (.inl none) (cw (km κ) cs r J W) :=
  tm_of me_134 rfl (Nat.le_of_ble_eq_true rfl) (
  tt_J (L1 := bk_134_1) 1 [some (.ref 97), some (.ref 124), some (.ref 130), some (.int (0 : Int32))] [] (cw (km κ) cs I J W) (fun _ => rfl) (tt_F [none, some (.ref 124), some (.ref 130), some (.int (0 : Int32))] (And.intro rfl (And.intro rfl (And.intro rfl trivial))) (tl_134_97_124_130_1  (0 : Int32) I _ h)))
/- 134 -/
def bd_134_97_125_131_1 (c1 : Int32 → (Nat → Nat → Int32) → Option (Nat → Nat → Int32)) (x3 : Int32) (I : (Nat → Nat → Int32)) : Option (Nat → Nat → Int32) :=
  (if x3 < (nI 1200) then (if ex_in x3 1200 then (if ex_in x3 1200 then let I1 := up I 131 (x3).toNatClampNeg (I 125 (x3).toNatClampNeg)
  (c1 (x3 + (1 : Int32)) I1) else none) else none) else (some I))
def lb_134_97_125_131_1 : Int32 → (Nat → Nat → Int32) → Option (Nat → Nat → Int32) := fx (fun _ _ => none) (bd_134_97_125_131_1 ) FU
def f_134_97_125_131 (I : (Nat → Nat → Int32)) : Option (Nat → Nat → Int32) :=
  (lb_134_97_125_131_1  (0 : Int32) I)
theorem tb_134_97_125_131_1 {d : Nat} {κ : KT} {cs : Nat × Nat} {J : Nat → Nat → Int64} {W : Nat} (c1 : Int32 → (Nat → Nat → Int32) → Option (Nat → Nat → Int32)) (k1 : ∀ (x3 : Int32) (I : (Nat → Nat → Int32)) (r : (Nat → Nat → Int32)), c1 x3 I = some r → tt d me_134 bk_134_1 [none, some (.ref 125), some (.ref 131), some (.int x3)] [] (cw (km κ) cs I J W) (.inl none) (cw (km κ) cs r J W)) (x3 : Int32) (I : (Nat → Nat → Int32)) (r : (Nat → Nat → Int32)) (h : bd_134_97_125_131_1  c1 x3 I = some r) : tt d me_134 bk_134_1 [none, some (.ref 125), some (.ref 131), some (.int x3)] [] (cw (km κ) cs I J W) (.inl none) (cw (km κ) cs r J W) :=
  tt_I (L1 := (bk_134_1.drop 4)) (L2 := bk_134_2) 4 [none, some (.ref 125), some (.ref 131), some (.int x3)] [] (cw (km κ) cs I J W) h (fun _ => rfl) (fun h =>
  tt_J (L1 := (bk_134_1.drop 8)) 3 [none, some (.ref 125), some (.ref 131), some (.int x3)] [.int x3, .ref 125, .int x3, .ref 131] (cw (km κ) cs I J W) (fun _ => rfl) (
  tt_Qi rfl h fun h =>
  let I1 := up I 131 (x3).toNatClampNeg (I 125 (x3).toNatClampNeg)
  tt_Wi rfl (Nat.le_of_ble_eq_true rfl) h fun h =>
  tt_J (L1 := bk_134_1) 1 [none, some (.ref 125), some (.ref 131), some (.int (x3 + (1 : Int32)))] [] (cw (km κ) cs I1 J W) (fun _ => rfl) (tt_F [none, some (.ref 125), some (.ref 131), some (.int (x3 + (1 : Int32)))] (And.intro rfl (And.intro rfl (And.intro rfl trivial))) (k1 (x3 + (1 : Int32)) I1 _ h)))) (fun h =>
  tt_R 1 (fun r => (.inl none)) (fun r => (cw (km κ) cs r J W)) h (fun _ => rfl))
theorem tn_134_97_125_131_1 {d : Nat} {κ : KT} {cs : Nat × Nat} {J : Nat → Nat → Int64} {W : Nat} : ∀ (n : Nat) (x3 : Int32) (I : (Nat → Nat → Int32)) (r : (Nat → Nat → Int32)), fx (fun _ _ => none) (bd_134_97_125_131_1 ) n x3 I = some r → tt d me_134 bk_134_1 [none, some (.ref 125), some (.ref 131), some (.int x3)] [] (cw (km κ) cs I J W) (.inl none) (cw (km κ) cs r J W)
  | 0 => fun _ _ _ h => nomatch h
  | n + 1 => fun x3 I r h => tb_134_97_125_131_1  (fx _ (bd_134_97_125_131_1 ) n) (tn_134_97_125_131_1  n) x3 I r h
theorem tl_134_97_125_131_1 {d : Nat} {κ : KT} {cs : Nat × Nat} {J : Nat → Nat → Int64} {W : Nat} (x3 : Int32) (I : (Nat → Nat → Int32)) (r : (Nat → Nat → Int32)) (h : lb_134_97_125_131_1  x3 I = some r) : tt d me_134 bk_134_1 [none, some (.ref 125), some (.ref 131), some (.int x3)] [] (cw (km κ) cs I J W) (.inl none) (cw (km κ) cs r J W) := tn_134_97_125_131_1  FU x3 I r h
theorem m_134_97_125_131 {d : Nat} {κ : KT} {cs : Nat × Nat} {J : Nat → Nat → Int64} {W : Nat} {I : (Nat → Nat → Int32)} {r : (Nat → Nat → Int32)} (h : f_134_97_125_131  I = some r) : tm d 134 [.ref 97, .ref 125, .ref 131] (cw (km κ) cs I J W) (.inl none) (cw (km κ) cs r J W) :=
  tm_of me_134 rfl (Nat.le_of_ble_eq_true rfl) (
  tt_J (L1 := bk_134_1) 1 [some (.ref 97), some (.ref 125), some (.ref 131), some (.int (0 : Int32))] [] (cw (km κ) cs I J W) (fun _ => rfl) (tt_F [none, some (.ref 125), some (.ref 131), some (.int (0 : Int32))] (And.intro rfl (And.intro rfl (And.intro rfl trivial))) (tl_134_97_125_131_1  (0 : Int32) I _ h)))
/- 134 -/
def bd_134_97_126_132_1 (c1 : Int32 → (Nat → Nat → Int32) → Option (Nat → Nat → Int32)) (x3 : Int32) (I : (Nat → Nat → Int32)) : Option (Nat → Nat → Int32) :=
  (if x3 < (nI 1200) then (if ex_in x3 1200 then (if ex_in x3 1200 then let I1 := up I 132 (x3).toNatClampNeg (I 126 (x3).toNatClampNeg)
  (c1 (x3 + (1 : Int32)) I1) else none) else none) else (some I))
def lb_134_97_126_132_1 : Int32 → (Nat → Nat → Int32) → Option (Nat → Nat → Int32) := fx (fun _ _ => none) (bd_134_97_126_132_1 ) FU
def f_134_97_126_132 (I : (Nat → Nat → Int32)) : Option (Nat → Nat → Int32) :=
  (lb_134_97_126_132_1  (0 : Int32) I)
theorem tb_134_97_126_132_1 {d : Nat} {κ : KT} {cs : Nat × Nat} {J : Nat → Nat → Int64} {W : Nat} (c1 : Int32 → (Nat → Nat → Int32) → Option (Nat → Nat → Int32)) (k1 : ∀ (x3 : Int32) (I : (Nat → Nat → Int32)) (r : (Nat → Nat → Int32)), c1 x3 I = some r → tt d me_134 bk_134_1 [none, some (.ref 126), some (.ref 132), some (.int x3)] [] (cw (km κ) cs I J W) (.inl none) (cw (km κ) cs r J W)) (x3 : Int32) (I : (Nat → Nat → Int32)) (r : (Nat → Nat → Int32)) (h : bd_134_97_126_132_1  c1 x3 I = some r) : tt d me_134 bk_134_1 [none, some (.ref 126), some (.ref 132), some (.int x3)] [] (cw (km κ) cs I J W) (.inl none) (cw (km κ) cs r J W) :=
  tt_I (L1 := (bk_134_1.drop 4)) (L2 := bk_134_2) 4 [none, some (.ref 126), some (.ref 132), some (.int x3)] [] (cw (km κ) cs I J W) h (fun _ => rfl) (fun h =>
  tt_J (L1 := (bk_134_1.drop 8)) 3 [none, some (.ref 126), some (.ref 132), some (.int x3)] [.int x3, .ref 126, .int x3, .ref 132] (cw (km κ) cs I J W) (fun _ => rfl) (
  tt_Qi rfl h fun h =>
  let I1 := up I 132 (x3).toNatClampNeg (I 126 (x3).toNatClampNeg)
  tt_Wi rfl (Nat.le_of_ble_eq_true rfl) h fun h =>
  tt_J (L1 := bk_134_1) 1 [none, some (.ref 126), some (.ref 132), some (.int (x3 + (1 : Int32)))] [] (cw (km κ) cs I1 J W) (fun _ => rfl) (tt_F [none, some (.ref 126), some (.ref 132), some (.int (x3 + (1 : Int32)))] (And.intro rfl (And.intro rfl (And.intro rfl trivial))) (k1 (x3 + (1 : Int32)) I1 _ h)))) (fun h =>
  tt_R 1 (fun r => (.inl none)) (fun r => (cw (km κ) cs r J W)) h (fun _ => rfl))
theorem tn_134_97_126_132_1 {d : Nat} {κ : KT} {cs : Nat × Nat} {J : Nat → Nat → Int64} {W : Nat} : ∀ (n : Nat) (x3 : Int32) (I : (Nat → Nat → Int32)) (r : (Nat → Nat → Int32)), fx (fun _ _ => none) (bd_134_97_126_132_1 ) n x3 I = some r → tt d me_134 bk_134_1 [none, some (.ref 126), some (.ref 132), some (.int x3)] [] (cw (km κ) cs I J W) (.inl none) (cw (km κ) cs r J W)
  | 0 => fun _ _ _ h => nomatch h
  | n + 1 => fun x3 I r h => tb_134_97_126_132_1  (fx _ (bd_134_97_126_132_1 ) n) (tn_134_97_126_132_1  n) x3 I r h
theorem tl_134_97_126_132_1 {d : Nat} {κ : KT} {cs : Nat × Nat} {J : Nat → Nat → Int64} {W : Nat} (x3 : Int32) (I : (Nat → Nat → Int32)) (r : (Nat → Nat → Int32)) (h : lb_134_97_126_132_1  x3 I = some r) : tt d me_134 bk_134_1 [none, some (.ref 126), some (.ref 132), some (.int x3)] [] (cw (km κ) cs I J W) (.inl none) (cw (km κ) cs r J W) := tn_134_97_126_132_1  FU x3 I r h
theorem m_134_97_126_132 {d : Nat} {κ : KT} {cs : Nat × Nat} {J : Nat → Nat → Int64} {W : Nat} {I : (Nat → Nat → Int32)} {r : (Nat → Nat → Int32)} (h : f_134_97_126_132  I = some r) : tm d 134 [.ref 97, .ref 126, .ref 132] (cw (km κ) cs I J W) (.inl none) (cw (km κ) cs r J W) :=
  tm_of me_134 rfl (Nat.le_of_ble_eq_true rfl) (
  tt_J (L1 := bk_134_1) 1 [some (.ref 97), some (.ref 126), some (.ref 132), some (.int (0 : Int32))] [] (cw (km κ) cs I J W) (fun _ => rfl) (tt_F [none, some (.ref 126), some (.ref 132), some (.int (0 : Int32))] (And.intro rfl (And.intro rfl (And.intro rfl trivial))) (tl_134_97_126_132_1  (0 : Int32) I _ h)))
/- 208 -/
def f_208 (I : (Nat → Nat → Int32)) : Option (Nat → Nat → Int32) :=
  (let I1 := up I 97 0 (0 : Int32)
  (let I2 := up I1 97 59 (1 : Int32)
  (let I3 := up I2 97 60 (I2 97 52)
  ((f_134_97_122_128  I3).bind fun q4 => ((f_134_97_123_129  q4).bind fun q5 => ((f_134_97_124_130  q5).bind fun q6 => ((f_134_97_125_131  q6).bind fun q7 => ((f_134_97_126_132  q7).bind fun q8 => (some q8)))))))))
theorem m_208 {d : Nat} {κ : KT} {cs : Nat × Nat} {J : Nat → Nat → Int64} {W : Nat} {I : (Nat → Nat → Int32)} {r : (Nat → Nat → Int32)} (h : f_208  I = some r) : tm (d + 1) 208 [.ref 97] (cw (km κ) cs I J W) (.inl none) (cw (km κ) cs r J W) :=
  tm_of me_208 rfl (Nat.le_of_ble_eq_true rfl) (
  let I1 := up I 97 0 (0 : Int32)
  let I2 := up I1 97 59 (1 : Int32)
  tt_J (L1 := (bk_208_0.drop 6)) 5 [some (.ref 97)] [] (cw (km κ) cs I2 J W) (fun _ => rfl) (
  let I3 := up I2 97 60 (I2 97 52)
  tt_C (L1 := (bk_208_0.drop 16)) 10 [some (.ref 97)] [] (cw (km κ) cs I3 J W) (show ((f_134_97_122_128  I3).bind fun q4 => ((f_134_97_123_129  q4).bind fun q5 => ((f_134_97_124_130  q5).bind fun q6 => ((f_134_97_125_131  q6).bind fun q7 => ((f_134_97_126_132  q7).bind fun q8 => (some q8)))))) = some r from h) (fun _ => rfl) (fun _ e => m_134_97_122_128 (d := d) e) fun q4 h =>
  tt_C (L1 := (bk_208_0.drop 22)) 6 [some (.ref 97)] [] (cw (km κ) cs q4 J W) h (fun _ => rfl) (fun _ e => m_134_97_123_129 (d := d) e) fun q5 h =>
  tt_C (L1 := (bk_208_0.drop 28)) 6 [some (.ref 97)] [] (cw (km κ) cs q5 J W) h (fun _ => rfl) (fun _ e => m_134_97_124_130 (d := d) e) fun q6 h =>
  tt_C (L1 := (bk_208_0.drop 34)) 6 [some (.ref 97)] [] (cw (km κ) cs q6 J W) h (fun _ => rfl) (fun _ e => m_134_97_125_131 (d := d) e) fun q7 h =>
  tt_C (L1 := (bk_208_0.drop 40)) 6 [some (.ref 97)] [] (cw (km κ) cs q7 J W) h (fun _ => rfl) (fun _ e => m_134_97_126_132 (d := d) e) fun q8 h =>
  tt_R 1 (fun r => (.inl none)) (fun r => (cw (km κ) cs r J W)) h (fun _ => rfl)))
/- 134 -/
def bd_134_97_128_122_1 (c1 : Int32 → (Nat → Nat → Int32) → Option (Nat → Nat → Int32)) (x3 : Int32) (I : (Nat → Nat → Int32)) : Option (Nat → Nat → Int32) :=
  (if x3 < (nI 60) then (if ex_in x3 60 then (if ex_in x3 60 then let I1 := up I 122 (x3).toNatClampNeg (I 128 (x3).toNatClampNeg)
  (c1 (x3 + (1 : Int32)) I1) else none) else none) else (some I))
def lb_134_97_128_122_1 : Int32 → (Nat → Nat → Int32) → Option (Nat → Nat → Int32) := fx (fun _ _ => none) (bd_134_97_128_122_1 ) FU
def f_134_97_128_122 (I : (Nat → Nat → Int32)) : Option (Nat → Nat → Int32) :=
  (lb_134_97_128_122_1  (0 : Int32) I)
theorem tb_134_97_128_122_1 {d : Nat} {κ : KT} {cs : Nat × Nat} {J : Nat → Nat → Int64} {W : Nat} (c1 : Int32 → (Nat → Nat → Int32) → Option (Nat → Nat → Int32)) (k1 : ∀ (x3 : Int32) (I : (Nat → Nat → Int32)) (r : (Nat → Nat → Int32)), c1 x3 I = some r → tt d me_134 bk_134_1 [none, some (.ref 128), some (.ref 122), some (.int x3)] [] (cw (km κ) cs I J W) (.inl none) (cw (km κ) cs r J W)) (x3 : Int32) (I : (Nat → Nat → Int32)) (r : (Nat → Nat → Int32)) (h : bd_134_97_128_122_1  c1 x3 I = some r) : tt d me_134 bk_134_1 [none, some (.ref 128), some (.ref 122), some (.int x3)] [] (cw (km κ) cs I J W) (.inl none) (cw (km κ) cs r J W) :=
  tt_I (L1 := (bk_134_1.drop 4)) (L2 := bk_134_2) 4 [none, some (.ref 128), some (.ref 122), some (.int x3)] [] (cw (km κ) cs I J W) h (fun _ => rfl) (fun h =>
  tt_J (L1 := (bk_134_1.drop 8)) 3 [none, some (.ref 128), some (.ref 122), some (.int x3)] [.int x3, .ref 128, .int x3, .ref 122] (cw (km κ) cs I J W) (fun _ => rfl) (
  tt_Qi rfl h fun h =>
  let I1 := up I 122 (x3).toNatClampNeg (I 128 (x3).toNatClampNeg)
  tt_Wi rfl (Nat.le_of_ble_eq_true rfl) h fun h =>
  tt_J (L1 := bk_134_1) 1 [none, some (.ref 128), some (.ref 122), some (.int (x3 + (1 : Int32)))] [] (cw (km κ) cs I1 J W) (fun _ => rfl) (tt_F [none, some (.ref 128), some (.ref 122), some (.int (x3 + (1 : Int32)))] (And.intro rfl (And.intro rfl (And.intro rfl trivial))) (k1 (x3 + (1 : Int32)) I1 _ h)))) (fun h =>
  tt_R 1 (fun r => (.inl none)) (fun r => (cw (km κ) cs r J W)) h (fun _ => rfl))
theorem tn_134_97_128_122_1 {d : Nat} {κ : KT} {cs : Nat × Nat} {J : Nat → Nat → Int64} {W : Nat} : ∀ (n : Nat) (x3 : Int32) (I : (Nat → Nat → Int32)) (r : (Nat → Nat → Int32)), fx (fun _ _ => none) (bd_134_97_128_122_1 ) n x3 I = some r → tt d me_134 bk_134_1 [none, some (.ref 128), some (.ref 122), some (.int x3)] [] (cw (km κ) cs I J W) (.inl none) (cw (km κ) cs r J W)
  | 0 => fun _ _ _ h => nomatch h
  | n + 1 => fun x3 I r h => tb_134_97_128_122_1  (fx _ (bd_134_97_128_122_1 ) n) (tn_134_97_128_122_1  n) x3 I r h
theorem tl_134_97_128_122_1 {d : Nat} {κ : KT} {cs : Nat × Nat} {J : Nat → Nat → Int64} {W : Nat} (x3 : Int32) (I : (Nat → Nat → Int32)) (r : (Nat → Nat → Int32)) (h : lb_134_97_128_122_1  x3 I = some r) : tt d me_134 bk_134_1 [none, some (.ref 128), some (.ref 122), some (.int x3)] [] (cw (km κ) cs I J W) (.inl none) (cw (km κ) cs r J W) := tn_134_97_128_122_1  FU x3 I r h
theorem m_134_97_128_122 {d : Nat} {κ : KT} {cs : Nat × Nat} {J : Nat → Nat → Int64} {W : Nat} {I : (Nat → Nat → Int32)} {r : (Nat → Nat → Int32)} (h : f_134_97_128_122  I = some r) : tm d 134 [.ref 97, .ref 128, .ref 122] (cw (km κ) cs I J W) (.inl none) (cw (km κ) cs r J W) :=
  tm_of me_134 rfl (Nat.le_of_ble_eq_true rfl) (
  tt_J (L1 := bk_134_1) 1 [some (.ref 97), some (.ref 128), some (.ref 122), some (.int (0 : Int32))] [] (cw (km κ) cs I J W) (fun _ => rfl) (tt_F [none, some (.ref 128), some (.ref 122), some (.int (0 : Int32))] (And.intro rfl (And.intro rfl (And.intro rfl trivial))) (tl_134_97_128_122_1  (0 : Int32) I _ h)))
/- 134 -/
def bd_134_97_129_123_1 (c1 : Int32 → (Nat → Nat → Int32) → Option (Nat → Nat → Int32)) (x3 : Int32) (I : (Nat → Nat → Int32)) : Option (Nat → Nat → Int32) :=
  (if x3 < (nI 60) then (if ex_in x3 60 then (if ex_in x3 60 then let I1 := up I 123 (x3).toNatClampNeg (I 129 (x3).toNatClampNeg)
  (c1 (x3 + (1 : Int32)) I1) else none) else none) else (some I))
def lb_134_97_129_123_1 : Int32 → (Nat → Nat → Int32) → Option (Nat → Nat → Int32) := fx (fun _ _ => none) (bd_134_97_129_123_1 ) FU
def f_134_97_129_123 (I : (Nat → Nat → Int32)) : Option (Nat → Nat → Int32) :=
  (lb_134_97_129_123_1  (0 : Int32) I)
theorem tb_134_97_129_123_1 {d : Nat} {κ : KT} {cs : Nat × Nat} {J : Nat → Nat → Int64} {W : Nat} (c1 : Int32 → (Nat → Nat → Int32) → Option (Nat → Nat → Int32)) (k1 : ∀ (x3 : Int32) (I : (Nat → Nat → Int32)) (r : (Nat → Nat → Int32)), c1 x3 I = some r → tt d me_134 bk_134_1 [none, some (.ref 129), some (.ref 123), some (.int x3)] [] (cw (km κ) cs I J W) (.inl none) (cw (km κ) cs r J W)) (x3 : Int32) (I : (Nat → Nat → Int32)) (r : (Nat → Nat → Int32)) (h : bd_134_97_129_123_1  c1 x3 I = some r) : tt d me_134 bk_134_1 [none, some (.ref 129), some (.ref 123), some (.int x3)] [] (cw (km κ) cs I J W) (.inl none) (cw (km κ) cs r J W) :=
  tt_I (L1 := (bk_134_1.drop 4)) (L2 := bk_134_2) 4 [none, some (.ref 129), some (.ref 123), some (.int x3)] [] (cw (km κ) cs I J W) h (fun _ => rfl) (fun h =>
  tt_J (L1 := (bk_134_1.drop 8)) 3 [none, some (.ref 129), some (.ref 123), some (.int x3)] [.int x3, .ref 129, .int x3, .ref 123] (cw (km κ) cs I J W) (fun _ => rfl) (
  tt_Qi rfl h fun h =>
  let I1 := up I 123 (x3).toNatClampNeg (I 129 (x3).toNatClampNeg)
  tt_Wi rfl (Nat.le_of_ble_eq_true rfl) h fun h =>
  tt_J (L1 := bk_134_1) 1 [none, some (.ref 129), some (.ref 123), some (.int (x3 + (1 : Int32)))] [] (cw (km κ) cs I1 J W) (fun _ => rfl) (tt_F [none, some (.ref 129), some (.ref 123), some (.int (x3 + (1 : Int32)))] (And.intro rfl (And.intro rfl (And.intro rfl trivial))) (k1 (x3 + (1 : Int32)) I1 _ h)))) (fun h =>
  tt_R 1 (fun r => (.inl none)) (fun r => (cw (km κ) cs r J W)) h (fun _ => rfl))
theorem tn_134_97_129_123_1 {d : Nat} {κ : KT} {cs : Nat × Nat} {J : Nat → Nat → Int64} {W : Nat} : ∀ (n : Nat) (x3 : Int32) (I : (Nat → Nat → Int32)) (r : (Nat → Nat → Int32)), fx (fun _ _ => none) (bd_134_97_129_123_1 ) n x3 I = some r → tt d me_134 bk_134_1 [none, some (.ref 129), some (.ref 123), some (.int x3)] [] (cw (km κ) cs I J W) (.inl none) (cw (km κ) cs r J W)
  | 0 => fun _ _ _ h => nomatch h
  | n + 1 => fun x3 I r h => tb_134_97_129_123_1  (fx _ (bd_134_97_129_123_1 ) n) (tn_134_97_129_123_1  n) x3 I r h
theorem tl_134_97_129_123_1 {d : Nat} {κ : KT} {cs : Nat × Nat} {J : Nat → Nat → Int64} {W : Nat} (x3 : Int32) (I : (Nat → Nat → Int32)) (r : (Nat → Nat → Int32)) (h : lb_134_97_129_123_1  x3 I = some r) : tt d me_134 bk_134_1 [none, some (.ref 129), some (.ref 123), some (.int x3)] [] (cw (km κ) cs I J W) (.inl none) (cw (km κ) cs r J W) := tn_134_97_129_123_1  FU x3 I r h
theorem m_134_97_129_123 {d : Nat} {κ : KT} {cs : Nat × Nat} {J : Nat → Nat → Int64} {W : Nat} {I : (Nat → Nat → Int32)} {r : (Nat → Nat → Int32)} (h : f_134_97_129_123  I = some r) : tm d 134 [.ref 97, .ref 129, .ref 123] (cw (km κ) cs I J W) (.inl none) (cw (km κ) cs r J W) :=
  tm_of me_134 rfl (Nat.le_of_ble_eq_true rfl) (
  tt_J (L1 := bk_134_1) 1 [some (.ref 97), some (.ref 129), some (.ref 123), some (.int (0 : Int32))] [] (cw (km κ) cs I J W) (fun _ => rfl) (tt_F [none, some (.ref 129), some (.ref 123), some (.int (0 : Int32))] (And.intro rfl (And.intro rfl (And.intro rfl trivial))) (tl_134_97_129_123_1  (0 : Int32) I _ h)))
/- 134 -/
def bd_134_97_130_124_1 (c1 : Int32 → (Nat → Nat → Int32) → Option (Nat → Nat → Int32)) (x3 : Int32) (I : (Nat → Nat → Int32)) : Option (Nat → Nat → Int32) :=
  (if x3 < (nI 60) then (if ex_in x3 60 then (if ex_in x3 60 then let I1 := up I 124 (x3).toNatClampNeg (I 130 (x3).toNatClampNeg)
  (c1 (x3 + (1 : Int32)) I1) else none) else none) else (some I))
def lb_134_97_130_124_1 : Int32 → (Nat → Nat → Int32) → Option (Nat → Nat → Int32) := fx (fun _ _ => none) (bd_134_97_130_124_1 ) FU
def f_134_97_130_124 (I : (Nat → Nat → Int32)) : Option (Nat → Nat → Int32) :=
  (lb_134_97_130_124_1  (0 : Int32) I)
theorem tb_134_97_130_124_1 {d : Nat} {κ : KT} {cs : Nat × Nat} {J : Nat → Nat → Int64} {W : Nat} (c1 : Int32 → (Nat → Nat → Int32) → Option (Nat → Nat → Int32)) (k1 : ∀ (x3 : Int32) (I : (Nat → Nat → Int32)) (r : (Nat → Nat → Int32)), c1 x3 I = some r → tt d me_134 bk_134_1 [none, some (.ref 130), some (.ref 124), some (.int x3)] [] (cw (km κ) cs I J W) (.inl none) (cw (km κ) cs r J W)) (x3 : Int32) (I : (Nat → Nat → Int32)) (r : (Nat → Nat → Int32)) (h : bd_134_97_130_124_1  c1 x3 I = some r) : tt d me_134 bk_134_1 [none, some (.ref 130), some (.ref 124), some (.int x3)] [] (cw (km κ) cs I J W) (.inl none) (cw (km κ) cs r J W) :=
  tt_I (L1 := (bk_134_1.drop 4)) (L2 := bk_134_2) 4 [none, some (.ref 130), some (.ref 124), some (.int x3)] [] (cw (km κ) cs I J W) h (fun _ => rfl) (fun h =>
  tt_J (L1 := (bk_134_1.drop 8)) 3 [none, some (.ref 130), some (.ref 124), some (.int x3)] [.int x3, .ref 130, .int x3, .ref 124] (cw (km κ) cs I J W) (fun _ => rfl) (
  tt_Qi rfl h fun h =>
  let I1 := up I 124 (x3).toNatClampNeg (I 130 (x3).toNatClampNeg)
  tt_Wi rfl (Nat.le_of_ble_eq_true rfl) h fun h =>
  tt_J (L1 := bk_134_1) 1 [none, some (.ref 130), some (.ref 124), some (.int (x3 + (1 : Int32)))] [] (cw (km κ) cs I1 J W) (fun _ => rfl) (tt_F [none, some (.ref 130), some (.ref 124), some (.int (x3 + (1 : Int32)))] (And.intro rfl (And.intro rfl (And.intro rfl trivial))) (k1 (x3 + (1 : Int32)) I1 _ h)))) (fun h =>
  tt_R 1 (fun r => (.inl none)) (fun r => (cw (km κ) cs r J W)) h (fun _ => rfl))
theorem tn_134_97_130_124_1 {d : Nat} {κ : KT} {cs : Nat × Nat} {J : Nat → Nat → Int64} {W : Nat} : ∀ (n : Nat) (x3 : Int32) (I : (Nat → Nat → Int32)) (r : (Nat → Nat → Int32)), fx (fun _ _ => none) (bd_134_97_130_124_1 ) n x3 I = some r → tt d me_134 bk_134_1 [none, some (.ref 130), some (.ref 124), some (.int x3)] [] (cw (km κ) cs I J W) (.inl none) (cw (km κ) cs r J W)
  | 0 => fun _ _ _ h => nomatch h
  | n + 1 => fun x3 I r h => tb_134_97_130_124_1  (fx _ (bd_134_97_130_124_1 ) n) (tn_134_97_130_124_1  n) x3 I r h
theorem tl_134_97_130_124_1 {d : Nat} {κ : KT} {cs : Nat × Nat} {J : Nat → Nat → Int64} {W : Nat} (x3 : Int32) (I : (Nat → Nat → Int32)) (r : (Nat → Nat → Int32)) (h : lb_134_97_130_124_1  x3 I = some r) : tt d me_134 bk_134_1 [none, some (.ref 130), some (.ref 124), some (.int x3)] [] (cw (km κ) cs I J W) (.inl none) (cw (km κ) cs r J W) := tn_134_97_130_124_1  FU x3 I r h
theorem m_134_97_130_124 {d : Nat} {κ : KT} {cs : Nat × Nat} {J : Nat → Nat → Int64} {W : Nat} {I : (Nat → Nat → Int32)} {r : (Nat → Nat → Int32)} (h : f_134_97_130_124  I = some r) : tm d 134 [.ref 97, .ref 130, .ref 124] (cw (km κ) cs I J W) (.inl none) (cw (km κ) cs r J W) :=
  tm_of me_134 rfl (Nat.le_of_ble_eq_true rfl) (
  tt_J (L1 := bk_134_1) 1 [some (.ref 97), some (.ref 130), some (.ref 124), some (.int (0 : Int32))] [] (cw (km κ) cs I J W) (fun _ => rfl) (tt_F [none, some (.ref 130), some (.ref 124), some (.int (0 : Int32))] (And.intro rfl (And.intro rfl (And.intro rfl trivial))) (tl_134_97_130_124_1  (0 : Int32) I _ h)))
/- 134 -/
def bd_134_97_131_125_1 (c1 : Int32 → (Nat → Nat → Int32) → Option (Nat → Nat → Int32)) (x3 : Int32) (I : (Nat → Nat → Int32)) : Option (Nat → Nat → Int32) :=
  (if x3 < (nI 1200) then (if ex_in x3 1200 then (if ex_in x3 1200 then let I1 := up I 125 (x3).toNatClampNeg (I 131 (x3).toNatClampNeg)
  (c1 (x3 + (1 : Int32)) I1) else none) else none) else (some I))
def lb_134_97_131_125_1 : Int32 → (Nat → Nat → Int32) → Option (Nat → Nat → Int32) := fx (fun _ _ => none) (bd_134_97_131_125_1 ) FU
def f_134_97_131_125 (I : (Nat → Nat → Int32)) : Option (Nat → Nat → Int32) :=
  (lb_134_97_131_125_1  (0 : Int32) I)
theorem tb_134_97_131_125_1 {d : Nat} {κ : KT} {cs : Nat × Nat} {J : Nat → Nat → Int64} {W : Nat} (c1 : Int32 → (Nat → Nat → Int32) → Option (Nat → Nat → Int32)) (k1 : ∀ (x3 : Int32) (I : (Nat → Nat → Int32)) (r : (Nat → Nat → Int32)), c1 x3 I = some r → tt d me_134 bk_134_1 [none, some (.ref 131), some (.ref 125), some (.int x3)] [] (cw (km κ) cs I J W) (.inl none) (cw (km κ) cs r J W)) (x3 : Int32) (I : (Nat → Nat → Int32)) (r : (Nat → Nat → Int32)) (h : bd_134_97_131_125_1  c1 x3 I = some r) : tt d me_134 bk_134_1 [none, some (.ref 131), some (.ref 125), some (.int x3)] [] (cw (km κ) cs I J W) (.inl none) (cw (km κ) cs r J W) :=
  tt_I (L1 := (bk_134_1.drop 4)) (L2 := bk_134_2) 4 [none, some (.ref 131), some (.ref 125), some (.int x3)] [] (cw (km κ) cs I J W) h (fun _ => rfl) (fun h =>
  tt_J (L1 := (bk_134_1.drop 8)) 3 [none, some (.ref 131), some (.ref 125), some (.int x3)] [.int x3, .ref 131, .int x3, .ref 125] (cw (km κ) cs I J W) (fun _ => rfl) (
  tt_Qi rfl h fun h =>
  let I1 := up I 125 (x3).toNatClampNeg (I 131 (x3).toNatClampNeg)
  tt_Wi rfl (Nat.le_of_ble_eq_true rfl) h fun h =>
  tt_J (L1 := bk_134_1) 1 [none, some (.ref 131), some (.ref 125), some (.int (x3 + (1 : Int32)))] [] (cw (km κ) cs I1 J W) (fun _ => rfl) (tt_F [none, some (.ref 131), some (.ref 125), some (.int (x3 + (1 : Int32)))] (And.intro rfl (And.intro rfl (And.intro rfl trivial))) (k1 (x3 + (1 : Int32)) I1 _ h)))) (fun h =>
  tt_R 1 (fun r => (.inl none)) (fun r => (cw (km κ) cs r J W)) h (fun _ => rfl))
theorem tn_134_97_131_125_1 {d : Nat} {κ : KT} {cs : Nat × Nat} {J : Nat → Nat → Int64} {W : Nat} : ∀ (n : Nat) (x3 : Int32) (I : (Nat → Nat → Int32)) (r : (Nat → Nat → Int32)), fx (fun _ _ => none) (bd_134_97_131_125_1 ) n x3 I = some r → tt d me_134 bk_134_1 [none, some (.ref 131), some (.ref 125), some (.int x3)] [] (cw (km κ) cs I J W) (.inl none) (cw (km κ) cs r J W)
  | 0 => fun _ _ _ h => nomatch h
  | n + 1 => fun x3 I r h => tb_134_97_131_125_1  (fx _ (bd_134_97_131_125_1 ) n) (tn_134_97_131_125_1  n) x3 I r h
theorem tl_134_97_131_125_1 {d : Nat} {κ : KT} {cs : Nat × Nat} {J : Nat → Nat → Int64} {W : Nat} (x3 : Int32) (I : (Nat → Nat → Int32)) (r : (Nat → Nat → Int32)) (h : lb_134_97_131_125_1  x3 I = some r) : tt d me_134 bk_134_1 [none, some (.ref 131), some (.ref 125), some (.int x3)] [] (cw (km κ) cs I J W) (.inl none) (cw (km κ) cs r J W) := tn_134_97_131_125_1  FU x3 I r h
theorem m_134_97_131_125 {d : Nat} {κ : KT} {cs : Nat × Nat} {J : Nat → Nat → Int64} {W : Nat} {I : (Nat → Nat → Int32)} {r : (Nat → Nat → Int32)} (h : f_134_97_131_125  I = some r) : tm d 134 [.ref 97, .ref 131, .ref 125] (cw (km κ) cs I J W) (.inl none) (cw (km κ) cs r J W) :=
  tm_of me_134 rfl (Nat.le_of_ble_eq_true rfl) (
  tt_J (L1 := bk_134_1) 1 [some (.ref 97), some (.ref 131), some (.ref 125), some (.int (0 : Int32))] [] (cw (km κ) cs I J W) (fun _ => rfl) (tt_F [none, some (.ref 131), some (.ref 125), some (.int (0 : Int32))] (And.intro rfl (And.intro rfl (And.intro rfl trivial))) (tl_134_97_131_125_1  (0 : Int32) I _ h)))
/- 134 -/
def bd_134_97_132_126_1 (c1 : Int32 → (Nat → Nat → Int32) → Option (Nat → Nat → Int32)) (x3 : Int32) (I : (Nat → Nat → Int32)) : Option (Nat → Nat → Int32) :=
  (if x3 < (nI 1200) then (if ex_in x3 1200 then (if ex_in x3 1200 then let I1 := up I 126 (x3).toNatClampNeg (I 132 (x3).toNatClampNeg)
  (c1 (x3 + (1 : Int32)) I1) else none) else none) else (some I))
def lb_134_97_132_126_1 : Int32 → (Nat → Nat → Int32) → Option (Nat → Nat → Int32) := fx (fun _ _ => none) (bd_134_97_132_126_1 ) FU
def f_134_97_132_126 (I : (Nat → Nat → Int32)) : Option (Nat → Nat → Int32) :=
  (lb_134_97_132_126_1  (0 : Int32) I)
theorem tb_134_97_132_126_1 {d : Nat} {κ : KT} {cs : Nat × Nat} {J : Nat → Nat → Int64} {W : Nat} (c1 : Int32 → (Nat → Nat → Int32) → Option (Nat → Nat → Int32)) (k1 : ∀ (x3 : Int32) (I : (Nat → Nat → Int32)) (r : (Nat → Nat → Int32)), c1 x3 I = some r → tt d me_134 bk_134_1 [none, some (.ref 132), some (.ref 126), some (.int x3)] [] (cw (km κ) cs I J W) (.inl none) (cw (km κ) cs r J W)) (x3 : Int32) (I : (Nat → Nat → Int32)) (r : (Nat → Nat → Int32)) (h : bd_134_97_132_126_1  c1 x3 I = some r) : tt d me_134 bk_134_1 [none, some (.ref 132), some (.ref 126), some (.int x3)] [] (cw (km κ) cs I J W) (.inl none) (cw (km κ) cs r J W) :=
  tt_I (L1 := (bk_134_1.drop 4)) (L2 := bk_134_2) 4 [none, some (.ref 132), some (.ref 126), some (.int x3)] [] (cw (km κ) cs I J W) h (fun _ => rfl) (fun h =>
  tt_J (L1 := (bk_134_1.drop 8)) 3 [none, some (.ref 132), some (.ref 126), some (.int x3)] [.int x3, .ref 132, .int x3, .ref 126] (cw (km κ) cs I J W) (fun _ => rfl) (
  tt_Qi rfl h fun h =>
  let I1 := up I 126 (x3).toNatClampNeg (I 132 (x3).toNatClampNeg)
  tt_Wi rfl (Nat.le_of_ble_eq_true rfl) h fun h =>
  tt_J (L1 := bk_134_1) 1 [none, some (.ref 132), some (.ref 126), some (.int (x3 + (1 : Int32)))] [] (cw (km κ) cs I1 J W) (fun _ => rfl) (tt_F [none, some (.ref 132), some (.ref 126), some (.int (x3 + (1 : Int32)))] (And.intro rfl (And.intro rfl (And.intro rfl trivial))) (k1 (x3 + (1 : Int32)) I1 _ h)))) (fun h =>
  tt_R 1 (fun r => (.inl none)) (fun r => (cw (km κ) cs r J W)) h (fun _ => rfl))
theorem tn_134_97_132_126_1 {d : Nat} {κ : KT} {cs : Nat × Nat} {J : Nat → Nat → Int64} {W : Nat} : ∀ (n : Nat) (x3 : Int32) (I : (Nat → Nat → Int32)) (r : (Nat → Nat → Int32)), fx (fun _ _ => none) (bd_134_97_132_126_1 ) n x3 I = some r → tt d me_134 bk_134_1 [none, some (.ref 132), some (.ref 126), some (.int x3)] [] (cw (km κ) cs I J W) (.inl none) (cw (km κ) cs r J W)
  | 0 => fun _ _ _ h => nomatch h
  | n + 1 => fun x3 I r h => tb_134_97_132_126_1  (fx _ (bd_134_97_132_126_1 ) n) (tn_134_97_132_126_1  n) x3 I r h
theorem tl_134_97_132_126_1 {d : Nat} {κ : KT} {cs : Nat × Nat} {J : Nat → Nat → Int64} {W : Nat} (x3 : Int32) (I : (Nat → Nat → Int32)) (r : (Nat → Nat → Int32)) (h : lb_134_97_132_126_1  x3 I = some r) : tt d me_134 bk_134_1 [none, some (.ref 132), some (.ref 126), some (.int x3)] [] (cw (km κ) cs I J W) (.inl none) (cw (km κ) cs r J W) := tn_134_97_132_126_1  FU x3 I r h
theorem m_134_97_132_126 {d : Nat} {κ : KT} {cs : Nat × Nat} {J : Nat → Nat → Int64} {W : Nat} {I : (Nat → Nat → Int32)} {r : (Nat → Nat → Int32)} (h : f_134_97_132_126  I = some r) : tm d 134 [.ref 97, .ref 132, .ref 126] (cw (km κ) cs I J W) (.inl none) (cw (km κ) cs r J W) :=
  tm_of me_134 rfl (Nat.le_of_ble_eq_true rfl) (
  tt_J (L1 := bk_134_1) 1 [some (.ref 97), some (.ref 132), some (.ref 126), some (.int (0 : Int32))] [] (cw (km κ) cs I J W) (fun _ => rfl) (tt_F [none, some (.ref 132), some (.ref 126), some (.int (0 : Int32))] (And.intro rfl (And.intro rfl (And.intro rfl trivial))) (tl_134_97_132_126_1  (0 : Int32) I _ h)))
/- 209 -/
def f_209 (I : (Nat → Nat → Int32)) : Option (Int32 × (Nat → Nat → Int32)) :=
  (let I1 := up I 97 0 (0 : Int32)
  (if (I1 97 59) = 0 then (some ((0 : Int32), I1)) else (let I2 := up I1 97 52 (I1 97 60)
  ((f_134_97_128_122  I2).bind fun q3 => ((f_134_97_129_123  q3).bind fun q4 => ((f_134_97_130_124  q4).bind fun q5 => ((f_134_97_131_125  q5).bind fun q6 => ((f_134_97_132_126  q6).bind fun q7 => (some ((1 : Int32), q7))))))))))
theorem m_209 {d : Nat} {κ : KT} {cs : Nat × Nat} {J : Nat → Nat → Int64} {W : Nat} {I : (Nat → Nat → Int32)} {r : (Int32 × (Nat → Nat → Int32))} (h : f_209  I = some r) : tm (d + 1) 209 [.ref 97] (cw (km κ) cs I J W) (.inl (some (.int r.1))) (cw (km κ) cs r.2 J W) :=
  tm_of me_209 rfl (Nat.le_of_ble_eq_true rfl) (
  let I1 := up I 97 0 (0 : Int32)
  tt_I (L1 := (bk_209_0.drop 6)) (L2 := bk_209_1) 6 [some (.ref 97)] [] (cw (km κ) cs I1 J W) h (fun _ => rfl) (fun h =>
  tt_R 2 (fun r => (.inl (some (.int r.1)))) (fun r => (cw (km κ) cs r.2 J W)) h (fun _ => rfl)) (fun h =>
  let I2 := up I1 97 52 (I1 97 60)
  tt_C (L1 := (bk_209_1.drop 10)) 10 [some (.ref 97)] [] (cw (km κ) cs I2 J W) h (fun _ => rfl) (fun _ e => m_134_97_128_122 (d := d) e) fun q3 h =>
  tt_C (L1 := (bk_209_1.drop 16)) 6 [some (.ref 97)] [] (cw (km κ) cs q3 J W) h (fun _ => rfl) (fun _ e => m_134_97_129_123 (d := d) e) fun q4 h =>
  tt_C (L1 := (bk_209_1.drop 22)) 6 [some (.ref 97)] [] (cw (km κ) cs q4 J W) h (fun _ => rfl) (fun _ e => m_134_97_130_124 (d := d) e) fun q5 h =>
  tt_C (L1 := (bk_209_1.drop 28)) 6 [some (.ref 97)] [] (cw (km κ) cs q5 J W) h (fun _ => rfl) (fun _ e => m_134_97_131_125 (d := d) e) fun q6 h =>
  tt_C (L1 := (bk_209_1.drop 34)) 6 [some (.ref 97)] [] (cw (km κ) cs q6 J W) h (fun _ => rfl) (fun _ e => m_134_97_132_126 (d := d) e) fun q7 h =>
  tt_R 2 (fun r => (.inl (some (.int r.1)))) (fun r => (cw (km κ) cs r.2 J W)) h (fun _ => rfl)))
/- 222 -/
def f_222 (x1 : Int32) (I : (Nat → Nat → Int32)) (J : (Nat → Nat → Int64)) (W : Nat) : Option (Int32 × (Nat → Nat → Int32) × (Nat → Nat → Int64) × Nat) :=
  ((f_89 x1 I W).bind fun q1 => mt2 q1.1 (fun v => (if ex_in (0 : Int32) 1 then let J2 := up J 133 ((0 : Int32)).toNatClampNeg (v).toInt64
  (some ((0 : Int32), q1.2.1, J2, q1.2.2)) else none)) (fun e => (if e = 0 then some ((1 : Int32), q1.2.1, J, q1.2.2) else none)))
theorem m_222 {d : Nat} {κ : KT} {cs : Nat × Nat} {x1 : Int32} {I : (Nat → Nat → Int32)} {J : (Nat → Nat → Int64)} {W : Nat} {r : (Int32 × (Nat → Nat → Int32) × (Nat → Nat → Int64) × Nat)} (h : f_222 x1 I J W = some r) : tm (d + 11) 222 [.ref 58, .int x1, .ref 133] (cw (km (kl κ)) cs I J W) (.inl (some (.int r.1))) (cw (km (kl κ)) (xk cs r.1) r.2.1 r.2.2.1 r.2.2.2) :=
  tm_of me_222 rfl (Nat.le_of_ble_eq_true rfl) (
  tt_X (d := d + 10) (L1 := (bk_222_0.drop 5)) 5 [some (.ref 58), some (.int x1), some (.ref 133), none] [.int (0 : Int32), .ref 133] (cw (km (kl κ)) cs I J W) xi (fun v => some (.int v)) (fun _ => rfl) (fun _ => rfl) h (fun _ => rfl) (fun _ e => m_89 (d := d) e) (fun q1 v h =>
  let J2 := up J 133 ((0 : Int32)).toNatClampNeg (v).toInt64
  tt_J (L1 := (bk_222_0.drop 6)) 0 [some (.ref 58), some (.int x1), some (.ref 133), none] [.long (v).toInt64, .int (0 : Int32), .ref 133] (cw (km (kl κ)) cs q1.2.1 J q1.2.2) (fun _ => rfl) (
  tt_Wl rfl (Nat.le_of_ble_eq_true rfl) h fun h =>
  tt_R 3 (fun r => (.inl (some (.int r.1)))) (fun r => (cw (km (kl κ)) (xk cs r.1) r.2.1 r.2.2.1 r.2.2.2)) h (fun _ => rfl))) (fun q1 e h => by (split at h; · next he => (subst he; cases h; rfl)); cases h))
/- 223 -/
def f_223 (x1 : Int32) (I : (Nat → Nat → Int32)) (J : (Nat → Nat → Int64)) : Option (Int32 × (Nat → Nat → Int64)) :=
  ((f_91 x1 I).bind fun q1 => mt2 q1 (fun v => (if ex_in (0 : Int32) 1 then let J2 := up J 133 ((0 : Int32)).toNatClampNeg (v).toInt64
  (some ((0 : Int32), J2)) else none)) (fun e => (if e = 1 then some ((1 : Int32), J) else none)))
theorem m_223 {d : Nat} {κ : KT} {cs : Nat × Nat} {W : Nat} {x1 : Int32} {I : (Nat → Nat → Int32)} {J : (Nat → Nat → Int64)} {r : (Int32 × (Nat → Nat → Int64))} (h : f_223 x1 I J = some r) : tm (d + 3) 223 [.ref 58, .int x1, .ref 133] (cw (km (kl κ)) cs I J W) (.inl (some (.int r.1))) (cw (km (kl κ)) (xk cs r.1) I r.2 W) :=
  tm_of me_223 rfl (Nat.le_of_ble_eq_true rfl) (
  tt_X (d := d + 2) (L1 := (bk_223_0.drop 5)) 5 [some (.ref 58), some (.int x1), some (.ref 133), none] [.int (0 : Int32), .ref 133] (cw (km (kl κ)) cs I J W) xi (fun v => some (.int v)) (fun _ => rfl) (fun _ => rfl) h (fun _ => rfl) (fun _ e => m_91 (d := d) e) (fun q1 v h =>
  let J2 := up J 133 ((0 : Int32)).toNatClampNeg (v).toInt64
  tt_J (L1 := (bk_223_0.drop 6)) 0 [some (.ref 58), some (.int x1), some (.ref 133), none] [.long (v).toInt64, .int (0 : Int32), .ref 133] (cw (km (kl κ)) cs I J W) (fun _ => rfl) (
  tt_Wl rfl (Nat.le_of_ble_eq_true rfl) h fun h =>
  tt_R 3 (fun r => (.inl (some (.int r.1)))) (fun r => (cw (km (kl κ)) (xk cs r.1) I r.2 W)) h (fun _ => rfl))) (fun q1 e h => by (split at h; · next he => (subst he; cases h; rfl)); cases h))
/- 224 -/
def f_224 (x1 : Int32) (x2 : Int32) (x3 : Int32) (I : (Nat → Nat → Int32)) (J : (Nat → Nat → Int64)) : Option (Int32 × (Nat → Nat → Int64)) :=
  ((f_92 x1 x2 x3 I).bind fun q1 => mt2 q1 (fun v => (if ex_in (0 : Int32) 1 then let J2 := up J 133 ((0 : Int32)).toNatClampNeg (v).toInt64
  (some ((0 : Int32), J2)) else none)) (fun e => (if e = 1 then some ((1 : Int32), J) else none)))
theorem m_224 {d : Nat} {κ : KT} {cs : Nat × Nat} {W : Nat} {x1 : Int32} {x2 : Int32} {x3 : Int32} {I : (Nat → Nat → Int32)} {J : (Nat → Nat → Int64)} {r : (Int32 × (Nat → Nat → Int64))} (h : f_224 x1 x2 x3 I J = some r) : tm (d + 4) 224 [.ref 58, .int x1, .int x2, .int x3, .ref 133] (cw (km (kl κ)) cs I J W) (.inl (some (.int r.1))) (cw (km (kl κ)) (xk cs r.1) I r.2 W) :=
  tm_of me_224 rfl (Nat.le_of_ble_eq_true rfl) (
  tt_X (d := d + 3) (L1 := (bk_224_0.drop 7)) 7 [some (.ref 58), some (.int x1), some (.int x2), some (.int x3), some (.ref 133), none] [.int (0 : Int32), .ref 133] (cw (km (kl κ)) cs I J W) xi (fun v => some (.int v)) (fun _ => rfl) (fun _ => rfl) h (fun _ => rfl) (fun _ e => m_92 (d := d) e) (fun q1 v h =>
  let J2 := up J 133 ((0 : Int32)).toNatClampNeg (v).toInt64
  tt_J (L1 := (bk_224_0.drop 8)) 0 [some (.ref 58), some (.int x1), some (.int x2), some (.int x3), some (.ref 133), none] [.long (v).toInt64, .int (0 : Int32), .ref 133] (cw (km (kl κ)) cs I J W) (fun _ => rfl) (
  tt_Wl rfl (Nat.le_of_ble_eq_true rfl) h fun h =>
  tt_R 3 (fun r => (.inl (some (.int r.1)))) (fun r => (cw (km (kl κ)) (xk cs r.1) I r.2 W)) h (fun _ => rfl))) (fun q1 e h => by (split at h; · next he => (subst he; cases h; rfl)); cases h))
/- 225 -/
def f_225 (x1 : Int32) (x2 : Int32) (x3 : Int32) (I : (Nat → Nat → Int32)) (J : (Nat → Nat → Int64)) : Option (Int32 × (Nat → Nat → Int32) × (Nat → Nat → Int64)) :=
  ((f_93 x1 x2 x3 I).bind fun q1 => mt2 q1.1 (fun v => (if ex_in (0 : Int32) 1 then let J2 := up J 133 ((0 : Int32)).toNatClampNeg (v).toInt64
  (some ((0 : Int32), q1.2, J2)) else none)) (fun e => (if e = 1 then some ((1 : Int32), q1.2, J) else none)))
theorem m_225 {d : Nat} {κ : KT} {cs : Nat × Nat} {W : Nat} {x1 : Int32} {x2 : Int32} {x3 : Int32} {I : (Nat → Nat → Int32)} {J : (Nat → Nat → Int64)} {r : (Int32 × (Nat → Nat → Int32) × (Nat → Nat → Int64))} (h : f_225 x1 x2 x3 I J = some r) : tm (d + 5) 225 [.ref 58, .int x1, .int x2, .int x3, .ref 133] (cw (km (kl κ)) cs I J W) (.inl (some (.int r.1))) (cw (km (kl κ)) (xk cs r.1) r.2.1 r.2.2 W) :=
  tm_of me_225 rfl (Nat.le_of_ble_eq_true rfl) (
  tt_X (d := d + 4) (L1 := (bk_225_0.drop 7)) 7 [some (.ref 58), some (.int x1), some (.int x2), some (.int x3), some (.ref 133), none] [.int (0 : Int32), .ref 133] (cw (km (kl κ)) cs I J W) xi (fun v => some (.int v)) (fun _ => rfl) (fun _ => rfl) h (fun _ => rfl) (fun _ e => m_93 (d := d) e) (fun q1 v h =>
  let J2 := up J 133 ((0 : Int32)).toNatClampNeg (v).toInt64
  tt_J (L1 := (bk_225_0.drop 8)) 0 [some (.ref 58), some (.int x1), some (.int x2), some (.int x3), some (.ref 133), none] [.long (v).toInt64, .int (0 : Int32), .ref 133] (cw (km (kl κ)) cs q1.2 J W) (fun _ => rfl) (
  tt_Wl rfl (Nat.le_of_ble_eq_true rfl) h fun h =>
  tt_R 3 (fun r => (.inl (some (.int r.1)))) (fun r => (cw (km (kl κ)) (xk cs r.1) r.2.1 r.2.2 W)) h (fun _ => rfl))) (fun q1 e h => by (split at h; · next he => (subst he; cases h; rfl)); cases h))
/- 226 -/
def f_226 (x1 : Int32) (x2 : Int32) (I : (Nat → Nat → Int32)) (J : (Nat → Nat → Int64)) : Option (Int32 × (Nat → Nat → Int64)) :=
  ((f_94 x1 x2 I).bind fun q1 => mt2 q1 (fun v => (if ex_in (0 : Int32) 1 then let J2 := up J 133 ((0 : Int32)).toNatClampNeg (v).toInt64
  (some ((0 : Int32), J2)) else none)) (fun e => (if e = 1 then some ((1 : Int32), J) else (if e = 0 then some ((2 : Int32), J) else none))))
theorem m_226 {d : Nat} {κ : KT} {cs : Nat × Nat} {W : Nat} {x1 : Int32} {x2 : Int32} {I : (Nat → Nat → Int32)} {J : (Nat → Nat → Int64)} {r : (Int32 × (Nat → Nat → Int64))} (h : f_226 x1 x2 I J = some r) : tm (d + 5) 226 [.ref 58, .int x1, .int x2, .ref 133] (cw (km (kl κ)) cs I J W) (.inl (some (.int r.1))) (cw (km (kl κ)) (xk cs r.1) I r.2 W) :=
  tm_of me_226 rfl (Nat.le_of_ble_eq_true rfl) (
  tt_X (d := d + 4) (L1 := (bk_226_0.drop 6)) 6 [some (.ref 58), some (.int x1), some (.int x2), some (.ref 133), none] [.int (0 : Int32), .ref 133] (cw (km (kl κ)) cs I J W) xi (fun v => some (.int v)) (fun _ => rfl) (fun _ => rfl) h (fun _ => rfl) (fun _ e => m_94 (d := d) e) (fun q1 v h =>
  let J2 := up J 133 ((0 : Int32)).toNatClampNeg (v).toInt64
  tt_J (L1 := (bk_226_0.drop 7)) 0 [some (.ref 58), some (.int x1), some (.int x2), some (.ref 133), none] [.long (v).toInt64, .int (0 : Int32), .ref 133] (cw (km (kl κ)) cs I J W) (fun _ => rfl) (
  tt_Wl rfl (Nat.le_of_ble_eq_true rfl) h fun h =>
  tt_R 3 (fun r => (.inl (some (.int r.1)))) (fun r => (cw (km (kl κ)) (xk cs r.1) I r.2 W)) h (fun _ => rfl))) (fun q1 e h => by (split at h; · next he => (subst he; cases h; rfl)); (split at h; · next he => (subst he; cases h; rfl)); cases h))
/- 227 -/
def f_227 (x1 : Int32) (I : (Nat → Nat → Int32)) (J : (Nat → Nat → Int64)) : Option (Int32 × (Nat → Nat → Int32) × (Nat → Nat → Int64)) :=
  ((f_95 x1 I).bind fun q1 => mt2 q1.1 (fun v => (if ex_in (0 : Int32) 1 then let J2 := up J 133 ((0 : Int32)).toNatClampNeg (v).toInt64
  (some ((0 : Int32), q1.2, J2)) else none)) (fun e => (if e = 0 then some ((1 : Int32), q1.2, J) else none)))
theorem m_227 {d : Nat} {κ : KT} {cs : Nat × Nat} {W : Nat} {x1 : Int32} {I : (Nat → Nat → Int32)} {J : (Nat → Nat → Int64)} {r : (Int32 × (Nat → Nat → Int32) × (Nat → Nat → Int64))} (h : f_227 x1 I J = some r) : tm (d + 5) 227 [.ref 58, .int x1, .ref 133] (cw (km (kl κ)) cs I J W) (.inl (some (.int r.1))) (cw (km (kl κ)) (xk cs r.1) r.2.1 r.2.2 W) :=
  tm_of me_227 rfl (Nat.le_of_ble_eq_true rfl) (
  tt_X (d := d + 4) (L1 := (bk_227_0.drop 5)) 5 [some (.ref 58), some (.int x1), some (.ref 133), none] [.int (0 : Int32), .ref 133] (cw (km (kl κ)) cs I J W) xi (fun v => some (.int v)) (fun _ => rfl) (fun _ => rfl) h (fun _ => rfl) (fun _ e => m_95 (d := d) e) (fun q1 v h =>
  let J2 := up J 133 ((0 : Int32)).toNatClampNeg (v).toInt64
  tt_J (L1 := (bk_227_0.drop 6)) 0 [some (.ref 58), some (.int x1), some (.ref 133), none] [.long (v).toInt64, .int (0 : Int32), .ref 133] (cw (km (kl κ)) cs q1.2 J W) (fun _ => rfl) (
  tt_Wl rfl (Nat.le_of_ble_eq_true rfl) h fun h =>
  tt_R 3 (fun r => (.inl (some (.int r.1)))) (fun r => (cw (km (kl κ)) (xk cs r.1) r.2.1 r.2.2 W)) h (fun _ => rfl))) (fun q1 e h => by (split at h; · next he => (subst he; cases h; rfl)); cases h))
/- 228 -/
def f_228 (x1 : Int32) (x2 : Int32) (I : (Nat → Nat → Int32)) (J : (Nat → Nat → Int64)) : Option (Int32 × (Nat → Nat → Int32) × (Nat → Nat → Int64)) :=
  ((f_97 x1 x2 I).bind fun q1 => mt2 q1.1 (fun v => (if ex_in (0 : Int32) 1 then let J2 := up J 133 ((0 : Int32)).toNatClampNeg (v).toInt64
  (some ((0 : Int32), q1.2, J2)) else none)) (fun e => (if e = 1 then some ((1 : Int32), q1.2, J) else (if e = 0 then some ((2 : Int32), q1.2, J) else none))))
theorem m_228 {d : Nat} {κ : KT} {cs : Nat × Nat} {W : Nat} {x1 : Int32} {x2 : Int32} {I : (Nat → Nat → Int32)} {J : (Nat → Nat → Int64)} {r : (Int32 × (Nat → Nat → Int32) × (Nat → Nat → Int64))} (h : f_228 x1 x2 I J = some r) : tm (d + 14) 228 [.ref 58, .int x1, .int x2, .ref 133] (cw (km (kl κ)) cs I J W) (.inl (some (.int r.1))) (cw (km (kl κ)) (xk cs r.1) r.2.1 r.2.2 W) :=
  tm_of me_228 rfl (Nat.le_of_ble_eq_true rfl) (
  tt_X (d := d + 13) (L1 := (bk_228_0.drop 6)) 6 [some (.ref 58), some (.int x1), some (.int x2), some (.ref 133), none] [.int (0 : Int32), .ref 133] (cw (km (kl κ)) cs I J W) xi (fun v => some (.int v)) (fun _ => rfl) (fun _ => rfl) h (fun _ => rfl) (fun _ e => m_97 (d := d) e) (fun q1 v h =>
  let J2 := up J 133 ((0 : Int32)).toNatClampNeg (v).toInt64
  tt_J (L1 := (bk_228_0.drop 7)) 0 [some (.ref 58), some (.int x1), some (.int x2), some (.ref 133), none] [.long (v).toInt64, .int (0 : Int32), .ref 133] (cw (km (kl κ)) cs q1.2 J W) (fun _ => rfl) (
  tt_Wl rfl (Nat.le_of_ble_eq_true rfl) h fun h =>
  tt_R 3 (fun r => (.inl (some (.int r.1)))) (fun r => (cw (km (kl κ)) (xk cs r.1) r.2.1 r.2.2 W)) h (fun _ => rfl))) (fun q1 e h => by (split at h; · next he => (subst he; cases h; rfl)); (split at h; · next he => (subst he; cases h; rfl)); cases h))
/- 229 -/
def f_229 (x1 : Int32) (I : (Nat → Nat → Int32)) (J : (Nat → Nat → Int64)) : Option (Int32 × (Nat → Nat → Int64)) :=
  ((f_98 x1 I).bind fun q1 => mt2 q1 (fun v => (if ex_in (0 : Int32) 1 then let J2 := up J 133 ((0 : Int32)).toNatClampNeg (v).toInt64
  (some ((0 : Int32), J2)) else none)) (fun e => (if e = 1 then some ((1 : Int32), J) else none)))
theorem m_229 {d : Nat} {κ : KT} {cs : Nat × Nat} {W : Nat} {x1 : Int32} {I : (Nat → Nat → Int32)} {J : (Nat → Nat → Int64)} {r : (Int32 × (Nat → Nat → Int64))} (h : f_229 x1 I J = some r) : tm (d + 3) 229 [.ref 58, .int x1, .ref 133] (cw (km (kl κ)) cs I J W) (.inl (some (.int r.1))) (cw (km (kl κ)) (xk cs r.1) I r.2 W) :=
  tm_of me_229 rfl (Nat.le_of_ble_eq_true rfl) (
  tt_X (d := d + 2) (L1 := (bk_229_0.drop 5)) 5 [some (.ref 58), some (.int x1), some (.ref 133), none] [.int (0 : Int32), .ref 133] (cw (km (kl κ)) cs I J W) xi (fun v => some (.int v)) (fun _ => rfl) (fun _ => rfl) h (fun _ => rfl) (fun _ e => m_98 (d := d) e) (fun q1 v h =>
  let J2 := up J 133 ((0 : Int32)).toNatClampNeg (v).toInt64
  tt_J (L1 := (bk_229_0.drop 6)) 0 [some (.ref 58), some (.int x1), some (.ref 133), none] [.long (v).toInt64, .int (0 : Int32), .ref 133] (cw (km (kl κ)) cs I J W) (fun _ => rfl) (
  tt_Wl rfl (Nat.le_of_ble_eq_true rfl) h fun h =>
  tt_R 3 (fun r => (.inl (some (.int r.1)))) (fun r => (cw (km (kl κ)) (xk cs r.1) I r.2 W)) h (fun _ => rfl))) (fun q1 e h => by (split at h; · next he => (subst he; cases h; rfl)); cases h))
/- 230 -/
def f_230 (x1 : Int32) (I : (Nat → Nat → Int32)) (J : (Nat → Nat → Int64)) : Option (Int32 × (Nat → Nat → Int32) × (Nat → Nat → Int64)) :=
  ((f_99 x1 I).bind fun q1 => mt2 q1.1 (fun v => (if ex_in (0 : Int32) 1 then let J2 := up J 133 ((0 : Int32)).toNatClampNeg (v).toInt64
  (some ((0 : Int32), q1.2, J2)) else none)) (fun e => (if e = 1 then some ((1 : Int32), q1.2, J) else none)))
theorem m_230 {d : Nat} {κ : KT} {cs : Nat × Nat} {W : Nat} {x1 : Int32} {I : (Nat → Nat → Int32)} {J : (Nat → Nat → Int64)} {r : (Int32 × (Nat → Nat → Int32) × (Nat → Nat → Int64))} (h : f_230 x1 I J = some r) : tm (d + 14) 230 [.ref 58, .int x1, .ref 133] (cw (km (kl κ)) cs I J W) (.inl (some (.int r.1))) (cw (km (kl κ)) (xk cs r.1) r.2.1 r.2.2 W) :=
  tm_of me_230 rfl (Nat.le_of_ble_eq_true rfl) (
  tt_X (d := d + 13) (L1 := (bk_230_0.drop 5)) 5 [some (.ref 58), some (.int x1), some (.ref 133), none] [.int (0 : Int32), .ref 133] (cw (km (kl κ)) cs I J W) xi (fun v => some (.int v)) (fun _ => rfl) (fun _ => rfl) h (fun _ => rfl) (fun _ e => m_99 (d := d) e) (fun q1 v h =>
  let J2 := up J 133 ((0 : Int32)).toNatClampNeg (v).toInt64
  tt_J (L1 := (bk_230_0.drop 6)) 0 [some (.ref 58), some (.int x1), some (.ref 133), none] [.long (v).toInt64, .int (0 : Int32), .ref 133] (cw (km (kl κ)) cs q1.2 J W) (fun _ => rfl) (
  tt_Wl rfl (Nat.le_of_ble_eq_true rfl) h fun h =>
  tt_R 3 (fun r => (.inl (some (.int r.1)))) (fun r => (cw (km (kl κ)) (xk cs r.1) r.2.1 r.2.2 W)) h (fun _ => rfl))) (fun q1 e h => by (split at h; · next he => (subst he; cases h; rfl)); cases h))
/- 231 -/
def f_231 (x1 : Int32) (x2 : Int32) (x3 : Int32) (x4 : Int32) (I : (Nat → Nat → Int32)) (J : (Nat → Nat → Int64)) : Option (Int32 × (Nat → Nat → Int32) × (Nat → Nat → Int64)) :=
  ((f_100 x1 x2 x3 x4 I).bind fun q1 => mt2 q1.1 (fun v => (if ex_in (0 : Int32) 1 then let J2 := up J 133 ((0 : Int32)).toNatClampNeg v
  (some ((0 : Int32), q1.2, J2)) else none)) (fun e => (if e = 0 then some ((1 : Int32), q1.2, J) else none)))
theorem m_231 {d : Nat} {κ : KT} {cs : Nat × Nat} {W : Nat} {x1 : Int32} {x2 : Int32} {x3 : Int32} {x4 : Int32} {I : (Nat → Nat → Int32)} {J : (Nat → Nat → Int64)} {r : (Int32 × (Nat → Nat → Int32) × (Nat → Nat → Int64))} (h : f_231 x1 x2 x3 x4 I J = some r) : tm (d + 5) 231 [.ref 58, .int x1, .int x2, .int x3, .int x4, .ref 133] (cw (km (kl κ)) cs I J W) (.inl (some (.int r.1))) (cw (km (kl κ)) (xk cs r.1) r.2.1 r.2.2 W) :=
  tm_of me_231 rfl (Nat.le_of_ble_eq_true rfl) (
  tt_X (d := d + 4) (L1 := (bk_231_0.drop 8)) 8 [some (.ref 58), some (.int x1), some (.int x2), some (.int x3), some (.int x4), some (.ref 133), none] [.int (0 : Int32), .ref 133] (cw (km (kl κ)) cs I J W) xl (fun v => some (.long v)) (fun _ => rfl) (fun _ => rfl) h (fun _ => rfl) (fun _ e => m_100 (d := d) e) (fun q1 v h =>
  let J2 := up J 133 ((0 : Int32)).toNatClampNeg v
  tt_Wl rfl (Nat.le_of_ble_eq_true rfl) h fun h =>
  tt_R 3 (fun r => (.inl (some (.int r.1)))) (fun r => (cw (km (kl κ)) (xk cs r.1) r.2.1 r.2.2 W)) h (fun _ => rfl)) (fun q1 e h => by (split at h; · next he => (subst he; cases h; rfl)); cases h))
/- 232 -/
def f_232 (x1 : Int32) (x2 : Int32) (x3 : Int32) (I : (Nat → Nat → Int32)) (J : (Nat → Nat → Int64)) : Option (Int32 × (Nat → Nat → Int32) × (Nat → Nat → Int64)) :=
  ((f_101 x1 x2 x3 I).bind fun q1 => mt2 q1.1 (fun v => (if ex_in (0 : Int32) 1 then let J2 := up J 133 ((0 : Int32)).toNatClampNeg (v).toInt64
  (some ((0 : Int32), q1.2, J2)) else none)) (fun e => (if e = 1 then some ((1 : Int32), q1.2, J) else (if e = 0 then some ((2 : Int32), q1.2, J) else none))))
theorem m_232 {d : Nat} {κ : KT} {cs : Nat × Nat} {W : Nat} {x1 : Int32} {x2 : Int32} {x3 : Int32} {I : (Nat → Nat → Int32)} {J : (Nat → Nat → Int64)} {r : (Int32 × (Nat → Nat → Int32) × (Nat → Nat → Int64))} (h : f_232 x1 x2 x3 I J = some r) : tm (d + 5) 232 [.ref 58, .int x1, .int x2, .int x3, .ref 133] (cw (km (kl κ)) cs I J W) (.inl (some (.int r.1))) (cw (km (kl κ)) (xk cs r.1) r.2.1 r.2.2 W) :=
  tm_of me_232 rfl (Nat.le_of_ble_eq_true rfl) (
  tt_X (d := d + 4) (L1 := (bk_232_0.drop 7)) 7 [some (.ref 58), some (.int x1), some (.int x2), some (.int x3), some (.ref 133), none] [.int (0 : Int32), .ref 133] (cw (km (kl κ)) cs I J W) xi (fun v => some (.int v)) (fun _ => rfl) (fun _ => rfl) h (fun _ => rfl) (fun _ e => m_101 (d := d) e) (fun q1 v h =>
  let J2 := up J 133 ((0 : Int32)).toNatClampNeg (v).toInt64
  tt_J (L1 := (bk_232_0.drop 8)) 0 [some (.ref 58), some (.int x1), some (.int x2), some (.int x3), some (.ref 133), none] [.long (v).toInt64, .int (0 : Int32), .ref 133] (cw (km (kl κ)) cs q1.2 J W) (fun _ => rfl) (
  tt_Wl rfl (Nat.le_of_ble_eq_true rfl) h fun h =>
  tt_R 3 (fun r => (.inl (some (.int r.1)))) (fun r => (cw (km (kl κ)) (xk cs r.1) r.2.1 r.2.2 W)) h (fun _ => rfl))) (fun q1 e h => by (split at h; · next he => (subst he; cases h; rfl)); (split at h; · next he => (subst he; cases h; rfl)); cases h))
