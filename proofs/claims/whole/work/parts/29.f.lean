/-! functions, by wip/whole/sy.py -/
/- 159 -/
def lb_159_24 (I : (Nat → Nat → Int32)) (J : (Nat → Nat → Int64)) : Option ((Nat → Nat → Int32) × (Nat → Nat → Int64)) :=
  ((f_152 (0 : Int32) I).bind fun q7 => ((f_149 (0 : Int32) q7).bind fun q8 => (some (q8, J))))
def lb_159_23 (I : (Nat → Nat → Int32)) (J : (Nat → Nat → Int64)) : Option ((Nat → Nat → Int32) × (Nat → Nat → Int64)) :=
  ((f_145  I).bind fun q6 => (if q6 = 0 then (lb_159_24   I J) else (if (1 : Int32) < (I 97 31) then ((f_144 (1 : Int32) I).bind fun q9 => (lb_159_24   q9 J)) else (lb_159_24   I J))))
def lb_159_22 (c2 : Int32 → (Nat → Nat → Int32) → (Nat → Nat → Int64) → Option ((Nat → Nat → Int32) × (Nat → Nat → Int64))) (x1 : Int32) (I : (Nat → Nat → Int32)) (J : (Nat → Nat → Int64)) : Option ((Nat → Nat → Int32) × (Nat → Nat → Int64)) :=
  (c2 x1 I J)
def lb_159_7 (c2 : Int32 → (Nat → Nat → Int32) → (Nat → Nat → Int64) → Option ((Nat → Nat → Int32) × (Nat → Nat → Int64))) (x1 : Int32) (s1 : Int32) (I : (Nat → Nat → Int32)) (J : (Nat → Nat → Int64)) : Option ((Nat → Nat → Int32) × (Nat → Nat → Int64)) :=
  ((f_153 s1 I).bind fun q13 => (if ex_in (q13 97 31) 9 then let I14 := up q13 109 ((q13 97 31)).toNatClampNeg (vp_nar .boolean (0 : Int32))
  ((f_140  I14 J).bind fun q15 => ((f_156 (1 : Int32) q15.1 q15.2).bind fun q16 => (lb_159_22 c2 x1 q16.1 q16.2))) else none))
def lb_159_5 (c2 : Int32 → (Nat → Nat → Int32) → (Nat → Nat → Int64) → Option ((Nat → Nat → Int32) × (Nat → Nat → Int64))) (x1 : Int32) (x2 : Int32) (s1 : Int32) (I : (Nat → Nat → Int32)) (J : (Nat → Nat → Int64)) : Option ((Nat → Nat → Int32) × (Nat → Nat → Int64)) :=
  ((f_152 s1 I).bind fun q12 => (if x2 = (13 : Int32) then (lb_159_7 c2 x1 (4 : Int32) q12 J) else (lb_159_7 c2 x1 (5 : Int32) q12 J)))
def lb_159_3 (c2 : Int32 → (Nat → Nat → Int32) → (Nat → Nat → Int64) → Option ((Nat → Nat → Int32) × (Nat → Nat → Int64))) (x1 : Int32) (x2 : Int32) (I : (Nat → Nat → Int32)) (J : (Nat → Nat → Int64)) : Option ((Nat → Nat → Int32) × (Nat → Nat → Int64)) :=
  (if x2 = (13 : Int32) then (lb_159_5 c2 x1 x2 (2 : Int32) I J) else (lb_159_5 c2 x1 x2 (1 : Int32) I J))
def lb_159_15 (c2 : Int32 → (Nat → Nat → Int32) → (Nat → Nat → Int64) → Option ((Nat → Nat → Int32) × (Nat → Nat → Int64))) (x1 : Int32) (s1 : Int32) (I : (Nat → Nat → Int32)) (J : (Nat → Nat → Int64)) : Option ((Nat → Nat → Int32) × (Nat → Nat → Int64)) :=
  ((f_153 s1 I).bind fun q21 => ((f_140  q21 J).bind fun q22 => ((f_156 (0 : Int32) q22.1 q22.2).bind fun q23 => (lb_159_22 c2 x1 q23.1 q23.2))))
def lb_159_13 (c2 : Int32 → (Nat → Nat → Int32) → (Nat → Nat → Int64) → Option ((Nat → Nat → Int32) × (Nat → Nat → Int64))) (x1 : Int32) (I : (Nat → Nat → Int32)) (J : (Nat → Nat → Int64)) : Option ((Nat → Nat → Int32) × (Nat → Nat → Int64)) :=
  ((f_152 (5 : Int32) I).bind fun q19 => ((f_146 (43 : Int32) q19).bind fun q20 => (if q20 = 0 then (lb_159_15 c2 x1 (9 : Int32) q19 J) else (lb_159_15 c2 x1 (8 : Int32) q19 J))))
def lb_159_19 (c2 : Int32 → (Nat → Nat → Int32) → (Nat → Nat → Int64) → Option ((Nat → Nat → Int32) × (Nat → Nat → Int64))) (x1 : Int32) (s1 : Int32) (I : (Nat → Nat → Int32)) (J : (Nat → Nat → Int64)) : Option ((Nat → Nat → Int32) × (Nat → Nat → Int64)) :=
  ((f_153 s1 I).bind fun q28 => ((f_140  q28 J).bind fun q29 => ((f_156 (0 : Int32) q29.1 q29.2).bind fun q30 => (lb_159_22 c2 x1 q30.1 q30.2))))
def lb_159_17 (c2 : Int32 → (Nat → Nat → Int32) → (Nat → Nat → Int64) → Option ((Nat → Nat → Int32) × (Nat → Nat → Int64))) (x1 : Int32) (I : (Nat → Nat → Int32)) (J : (Nat → Nat → Int64)) : Option ((Nat → Nat → Int32) × (Nat → Nat → Int64)) :=
  ((f_152 (6 : Int32) I).bind fun q26 => ((f_146 (42 : Int32) q26).bind fun q27 => (if q27 = 0 then (lb_159_19 c2 x1 (11 : Int32) q26 J) else (lb_159_19 c2 x1 (10 : Int32) q26 J))))
def lb_159_21 (c2 : Int32 → (Nat → Nat → Int32) → (Nat → Nat → Int64) → Option ((Nat → Nat → Int32) × (Nat → Nat → Int64))) (I : (Nat → Nat → Int32)) (J : (Nat → Nat → Int64)) : Option ((Nat → Nat → Int32) × (Nat → Nat → Int64)) :=
  (lb_159_22 c2 (0 : Int32) I J)
def lb_159_12 (c2 : Int32 → (Nat → Nat → Int32) → (Nat → Nat → Int64) → Option ((Nat → Nat → Int32) × (Nat → Nat → Int64))) (x1 : Int32) (I : (Nat → Nat → Int32)) (J : (Nat → Nat → Int64)) : Option ((Nat → Nat → Int32) × (Nat → Nat → Int64)) :=
  ((f_146 (43 : Int32) I).bind fun q18 => (if q18 = 0 then ((f_146 (45 : Int32) I).bind fun q24 => (if q24 = 0 then ((f_146 (42 : Int32) I).bind fun q25 => (if q25 = 0 then ((f_146 (47 : Int32) I).bind fun q31 => (if q31 = 0 then ((f_146 (41 : Int32) I).bind fun q32 => (if q32 = 0 then (lb_159_21 c2  I J) else ((f_157  I).bind fun q33 => (if q33 = 0 then (lb_159_21 c2  I J) else ((f_158  I J).bind fun q34 => (lb_159_22 c2 x1 q34.1 q34.2)))))) else (lb_159_17 c2 x1 I J))) else (lb_159_17 c2 x1 I J))) else (lb_159_13 c2 x1 I J))) else (lb_159_13 c2 x1 I J)))
def lb_159_11 (c2 : Int32 → (Nat → Nat → Int32) → (Nat → Nat → Int64) → Option ((Nat → Nat → Int32) × (Nat → Nat → Int64))) (x1 : Int32) (s1 : Int32) (I : (Nat → Nat → Int32)) (J : (Nat → Nat → Int64)) : Option ((Nat → Nat → Int32) × (Nat → Nat → Int64)) :=
  ((f_153 s1 I).bind fun q37 => (if ex_in (q37 97 31) 9 then let I38 := up q37 109 ((q37 97 31)).toNatClampNeg (vp_nar .boolean (1 : Int32))
  ((f_140  I38 J).bind fun q39 => ((f_156 (0 : Int32) q39.1 q39.2).bind fun q40 => (lb_159_22 c2 x1 q40.1 q40.2))) else none))
def lb_159_9 (c2 : Int32 → (Nat → Nat → Int32) → (Nat → Nat → Int64) → Option ((Nat → Nat → Int32) × (Nat → Nat → Int64))) (x1 : Int32) (I : (Nat → Nat → Int32)) (J : (Nat → Nat → Int64)) : Option ((Nat → Nat → Int32) × (Nat → Nat → Int64)) :=
  (if ex_in (I 97 31) 9 then (if (I 109 ((I 97 31)).toNatClampNeg) = 0 then ((f_152 (4 : Int32) I).bind fun q35 => ((f_146 (60 : Int32) q35).bind fun q36 => (if q36 = 0 then (lb_159_11 c2 x1 (7 : Int32) q35 J) else (lb_159_11 c2 x1 (6 : Int32) q35 J)))) else (lb_159_12 c2 x1 I J)) else none)
def bd_159_2 (c2 : Int32 → (Nat → Nat → Int32) → (Nat → Nat → Int64) → Option ((Nat → Nat → Int32) × (Nat → Nat → Int64))) (x1 : Int32) (I : (Nat → Nat → Int32)) (J : (Nat → Nat → Int64)) : Option ((Nat → Nat → Int32) × (Nat → Nat → Int64)) :=
  (if x1 = 0 then (lb_159_23   I J) else ((f_145  I).bind fun q10 => (if q10 = 0 then (lb_159_23   I J) else ((f_143  I J).bind fun q11 => (if q11 = (13 : Int32) then (lb_159_3 c2 x1 q11 I J) else (if q11 = (14 : Int32) then (lb_159_3 c2 x1 q11 I J) else ((f_146 (60 : Int32) I).bind fun q17 => (if q17 = 0 then ((f_146 (61 : Int32) I).bind fun q41 => (if q41 = 0 then (lb_159_12 c2 x1 I J) else (lb_159_9 c2 x1 I J))) else (lb_159_9 c2 x1 I J)))))))))
def lb_159_2 : Int32 → (Nat → Nat → Int32) → (Nat → Nat → Int64) → Option ((Nat → Nat → Int32) × (Nat → Nat → Int64)) := fx (fun _ _ _ => none) (bd_159_2 ) FU
def f_159 (I : (Nat → Nat → Int32)) (J : (Nat → Nat → Int64)) : Option ((Nat → Nat → Int32) × (Nat → Nat → Int64)) :=
  ((f_145  I).bind fun q1 => (if q1 = 0 then (some (I, J)) else (let I2 := up I 97 30 (0 : Int32)
  (let I3 := up I2 97 31 (0 : Int32)
  ((f_155  I3).bind fun q4 => ((f_156 (1 : Int32) q4 J).bind fun q5 => (lb_159_2  (1 : Int32) q5.1 q5.2)))))))
theorem tl_159_24 {d : Nat} {κ : KT} {cs : Nat × Nat} {W : Nat} (I : (Nat → Nat → Int32)) (J : (Nat → Nat → Int64)) (r : ((Nat → Nat → Int32) × (Nat → Nat → Int64))) (h : lb_159_24   I J = some r) : tt (d + 5) me_159 bk_159_24 [some (.ref 97), none, none] [] (cw (km κ) cs I J W) (.inl none) (cw (km κ) cs r.1 r.2 W) :=
  tt_C (L1 := (bk_159_24.drop 3)) 3 [some (.ref 97), none, none] [] (cw (km κ) cs I J W) h (fun _ => rfl) (fun _ e => m_152 (d := d + 3) e) fun q7 h =>
  tt_C (L1 := (bk_159_24.drop 6)) 3 [some (.ref 97), none, none] [] (cw (km κ) cs q7 J W) h (fun _ => rfl) (fun _ e => m_149 (d := d + 4) e) fun q8 h =>
  tt_R 1 (fun r => (.inl none)) (fun r => (cw (km κ) cs r.1 r.2 W)) h (fun _ => rfl)
theorem tl_159_23 {d : Nat} {κ : KT} {cs : Nat × Nat} {W : Nat} (I : (Nat → Nat → Int32)) (J : (Nat → Nat → Int64)) (r : ((Nat → Nat → Int32) × (Nat → Nat → Int64))) (h : lb_159_23   I J = some r) : tt (d + 5) me_159 bk_159_23 [some (.ref 97), none, none] [] (cw (km κ) cs I J W) (.inl none) (cw (km κ) cs r.1 r.2 W) :=
  tt_C (L1 := (bk_159_23.drop 2)) 2 [some (.ref 97), none, none] [] (cw (km κ) cs I J W) h (fun _ => rfl) (fun _ e => m_145 (d := d + 4) e) fun q6 h =>
  tt_I (L1 := bk_159_24) (L2 := (bk_159_23.drop 3)) 1 [some (.ref 97), none, none] [] (cw (km κ) cs I J W) h (fun _ => rfl) (fun h =>
  tt_F [some (.ref 97), none, none] (And.intro rfl trivial) (tl_159_24   I J _ h)) (fun h =>
  tt_I (L1 := (bk_159_23.drop 7)) (L2 := bk_159_24) 4 [some (.ref 97), none, none] [] (cw (km κ) cs I J W) h (fun _ => rfl) (fun h =>
  tt_C (L1 := bk_159_24) 3 [some (.ref 97), none, none] [] (cw (km κ) cs I J W) h (fun _ => rfl) (fun _ e => m_144 (d := d + 4) e) fun q9 h =>
  tt_F [some (.ref 97), none, none] (And.intro rfl trivial) (tl_159_24   q9 J _ h)) (fun h =>
  tt_F [some (.ref 97), none, none] (And.intro rfl trivial) (tl_159_24   I J _ h)))
theorem tl_159_22 {d : Nat} {κ : KT} {cs : Nat × Nat} {W : Nat} (c2 : Int32 → (Nat → Nat → Int32) → (Nat → Nat → Int64) → Option ((Nat → Nat → Int32) × (Nat → Nat → Int64))) (k2 : ∀ (x1 : Int32) (I : (Nat → Nat → Int32)) (J : (Nat → Nat → Int64)) (r : ((Nat → Nat → Int32) × (Nat → Nat → Int64))), c2 x1 I J = some r → tt (d + 5) me_159 bk_159_2 [some (.ref 97), some (.int x1), none] [] (cw (km κ) cs I J W) (.inl none) (cw (km κ) cs r.1 r.2 W)) (x1 : Int32) (I : (Nat → Nat → Int32)) (J : (Nat → Nat → Int64)) (r : ((Nat → Nat → Int32) × (Nat → Nat → Int64))) (h : lb_159_22 c2 x1 I J = some r) : tt (d + 5) me_159 bk_159_22 [some (.ref 97), some (.int x1), none] [] (cw (km κ) cs I J W) (.inl none) (cw (km κ) cs r.1 r.2 W) :=
  tt_J (L1 := bk_159_2) 0 [some (.ref 97), some (.int x1), none] [] (cw (km κ) cs I J W) (fun _ => rfl) (tt_F [some (.ref 97), some (.int x1), none] (And.intro rfl (And.intro rfl trivial)) (k2 x1 I J _ h))
theorem tl_159_7 {d : Nat} {κ : KT} {cs : Nat × Nat} {W : Nat} (c2 : Int32 → (Nat → Nat → Int32) → (Nat → Nat → Int64) → Option ((Nat → Nat → Int32) × (Nat → Nat → Int64))) (k2 : ∀ (x1 : Int32) (I : (Nat → Nat → Int32)) (J : (Nat → Nat → Int64)) (r : ((Nat → Nat → Int32) × (Nat → Nat → Int64))), c2 x1 I J = some r → tt (d + 5) me_159 bk_159_2 [some (.ref 97), some (.int x1), none] [] (cw (km κ) cs I J W) (.inl none) (cw (km κ) cs r.1 r.2 W)) (x1 : Int32) (s1 : Int32) (I : (Nat → Nat → Int32)) (J : (Nat → Nat → Int64)) (r : ((Nat → Nat → Int32) × (Nat → Nat → Int64))) (h : lb_159_7 c2 x1 s1 I J = some r) : tt (d + 5) me_159 bk_159_7 [some (.ref 97), some (.int x1), none] [.int s1, .ref 97] (cw (km κ) cs I J W) (.inl none) (cw (km κ) cs r.1 r.2 W) :=
  tt_C (L1 := (bk_159_7.drop 1)) 1 [some (.ref 97), some (.int x1), none] [] (cw (km κ) cs I J W) h (fun _ => rfl) (fun _ e => m_153 (d := d + 4) e) fun q13 h =>
  let I14 := up q13 109 ((q13 97 31)).toNatClampNeg (vp_nar .boolean (0 : Int32))
  tt_J (L1 := (bk_159_7.drop 6)) 4 [some (.ref 97), some (.int x1), none] [.int (0 : Int32), .int (q13 97 31), .ref 109] (cw (km κ) cs q13 J W) (fun _ => rfl) (
  tt_Wz rfl (Nat.le_of_ble_eq_true rfl) h fun h =>
  tt_C (L1 := (bk_159_7.drop 9)) 2 [some (.ref 97), some (.int x1), none] [] (cw (km κ) cs I14 J W) h (fun _ => rfl) (fun _ e => m_140 (d := d + 3) e) fun q15 h =>
  tt_C (L1 := (bk_159_7.drop 12)) 3 [some (.ref 97), some (.int x1), none] [] (cw (km κ) cs q15.1 q15.2 W) h (fun _ => rfl) (fun _ e => m_156 (d := d) e) fun q16 h =>
  tt_J (L1 := bk_159_22) 0 [some (.ref 97), some (.int x1), none] [] (cw (km κ) cs q16.1 q16.2 W) (fun _ => rfl) (tt_F [some (.ref 97), some (.int x1), none] (And.intro rfl (And.intro rfl trivial)) (tl_159_22 c2 k2 x1 q16.1 q16.2 _ h)))
theorem tl_159_5 {d : Nat} {κ : KT} {cs : Nat × Nat} {W : Nat} (c2 : Int32 → (Nat → Nat → Int32) → (Nat → Nat → Int64) → Option ((Nat → Nat → Int32) × (Nat → Nat → Int64))) (k2 : ∀ (x1 : Int32) (I : (Nat → Nat → Int32)) (J : (Nat → Nat → Int64)) (r : ((Nat → Nat → Int32) × (Nat → Nat → Int64))), c2 x1 I J = some r → tt (d + 5) me_159 bk_159_2 [some (.ref 97), some (.int x1), none] [] (cw (km κ) cs I J W) (.inl none) (cw (km κ) cs r.1 r.2 W)) (x1 : Int32) (x2 : Int32) (s1 : Int32) (I : (Nat → Nat → Int32)) (J : (Nat → Nat → Int64)) (r : ((Nat → Nat → Int32) × (Nat → Nat → Int64))) (h : lb_159_5 c2 x1 x2 s1 I J = some r) : tt (d + 5) me_159 bk_159_5 [some (.ref 97), some (.int x1), some (.int x2)] [.int s1, .ref 97] (cw (km κ) cs I J W) (.inl none) (cw (km κ) cs r.1 r.2 W) :=
  tt_C (L1 := (bk_159_5.drop 1)) 1 [some (.ref 97), some (.int x1), some (.int x2)] [] (cw (km κ) cs I J W) h (fun _ => rfl) (fun _ e => m_152 (d := d + 3) e) fun q12 h =>
  tt_I (L1 := (bk_159_5.drop 5)) (L2 := bk_159_6) 4 [some (.ref 97), some (.int x1), some (.int x2)] [.ref 97] (cw (km κ) cs q12 J W) h (fun _ => rfl) (fun h =>
  tt_J (L1 := bk_159_7) 1 [some (.ref 97), some (.int x1), some (.int x2)] [.int (4 : Int32), .ref 97] (cw (km κ) cs q12 J W) (fun _ => rfl) (tt_F [some (.ref 97), some (.int x1), none] (And.intro rfl (And.intro rfl trivial)) (tl_159_7 c2 k2 x1 (4 : Int32) q12 J _ h))) (fun h =>
  tt_J (L1 := bk_159_7) 0 [some (.ref 97), some (.int x1), some (.int x2)] [.int (5 : Int32), .ref 97] (cw (km κ) cs q12 J W) (fun _ => rfl) (tt_F [some (.ref 97), some (.int x1), none] (And.intro rfl (And.intro rfl trivial)) (tl_159_7 c2 k2 x1 (5 : Int32) q12 J _ h)))
theorem tl_159_3 {d : Nat} {κ : KT} {cs : Nat × Nat} {W : Nat} (c2 : Int32 → (Nat → Nat → Int32) → (Nat → Nat → Int64) → Option ((Nat → Nat → Int32) × (Nat → Nat → Int64))) (k2 : ∀ (x1 : Int32) (I : (Nat → Nat → Int32)) (J : (Nat → Nat → Int64)) (r : ((Nat → Nat → Int32) × (Nat → Nat → Int64))), c2 x1 I J = some r → tt (d + 5) me_159 bk_159_2 [some (.ref 97), some (.int x1), none] [] (cw (km κ) cs I J W) (.inl none) (cw (km κ) cs r.1 r.2 W)) (x1 : Int32) (x2 : Int32) (I : (Nat → Nat → Int32)) (J : (Nat → Nat → Int64)) (r : ((Nat → Nat → Int32) × (Nat → Nat → Int64))) (h : lb_159_3 c2 x1 x2 I J = some r) : tt (d + 5) me_159 bk_159_3 [some (.ref 97), some (.int x1), some (.int x2)] [] (cw (km κ) cs I J W) (.inl none) (cw (km κ) cs r.1 r.2 W) :=
  tt_I (L1 := (bk_159_3.drop 4)) (L2 := bk_159_4) 4 [some (.ref 97), some (.int x1), some (.int x2)] [.ref 97] (cw (km κ) cs I J W) h (fun _ => rfl) (fun h =>
  tt_J (L1 := bk_159_5) 1 [some (.ref 97), some (.int x1), some (.int x2)] [.int (2 : Int32), .ref 97] (cw (km κ) cs I J W) (fun _ => rfl) (tt_F [some (.ref 97), some (.int x1), some (.int x2)] (And.intro rfl (And.intro rfl (And.intro rfl trivial))) (tl_159_5 c2 k2 x1 x2 (2 : Int32) I J _ h))) (fun h =>
  tt_J (L1 := bk_159_5) 0 [some (.ref 97), some (.int x1), some (.int x2)] [.int (1 : Int32), .ref 97] (cw (km κ) cs I J W) (fun _ => rfl) (tt_F [some (.ref 97), some (.int x1), some (.int x2)] (And.intro rfl (And.intro rfl (And.intro rfl trivial))) (tl_159_5 c2 k2 x1 x2 (1 : Int32) I J _ h)))
theorem tl_159_15 {d : Nat} {κ : KT} {cs : Nat × Nat} {W : Nat} (c2 : Int32 → (Nat → Nat → Int32) → (Nat → Nat → Int64) → Option ((Nat → Nat → Int32) × (Nat → Nat → Int64))) (k2 : ∀ (x1 : Int32) (I : (Nat → Nat → Int32)) (J : (Nat → Nat → Int64)) (r : ((Nat → Nat → Int32) × (Nat → Nat → Int64))), c2 x1 I J = some r → tt (d + 5) me_159 bk_159_2 [some (.ref 97), some (.int x1), none] [] (cw (km κ) cs I J W) (.inl none) (cw (km κ) cs r.1 r.2 W)) (x1 : Int32) (s1 : Int32) (I : (Nat → Nat → Int32)) (J : (Nat → Nat → Int64)) (r : ((Nat → Nat → Int32) × (Nat → Nat → Int64))) (h : lb_159_15 c2 x1 s1 I J = some r) : tt (d + 5) me_159 bk_159_15 [some (.ref 97), some (.int x1), none] [.int s1, .ref 97] (cw (km κ) cs I J W) (.inl none) (cw (km κ) cs r.1 r.2 W) :=
  tt_C (L1 := (bk_159_15.drop 1)) 1 [some (.ref 97), some (.int x1), none] [] (cw (km κ) cs I J W) h (fun _ => rfl) (fun _ e => m_153 (d := d + 4) e) fun q21 h =>
  tt_C (L1 := (bk_159_15.drop 3)) 2 [some (.ref 97), some (.int x1), none] [] (cw (km κ) cs q21 J W) h (fun _ => rfl) (fun _ e => m_140 (d := d + 3) e) fun q22 h =>
  tt_C (L1 := (bk_159_15.drop 6)) 3 [some (.ref 97), some (.int x1), none] [] (cw (km κ) cs q22.1 q22.2 W) h (fun _ => rfl) (fun _ e => m_156 (d := d) e) fun q23 h =>
  tt_J (L1 := bk_159_22) 0 [some (.ref 97), some (.int x1), none] [] (cw (km κ) cs q23.1 q23.2 W) (fun _ => rfl) (tt_F [some (.ref 97), some (.int x1), none] (And.intro rfl (And.intro rfl trivial)) (tl_159_22 c2 k2 x1 q23.1 q23.2 _ h))
theorem tl_159_13 {d : Nat} {κ : KT} {cs : Nat × Nat} {W : Nat} (c2 : Int32 → (Nat → Nat → Int32) → (Nat → Nat → Int64) → Option ((Nat → Nat → Int32) × (Nat → Nat → Int64))) (k2 : ∀ (x1 : Int32) (I : (Nat → Nat → Int32)) (J : (Nat → Nat → Int64)) (r : ((Nat → Nat → Int32) × (Nat → Nat → Int64))), c2 x1 I J = some r → tt (d + 5) me_159 bk_159_2 [some (.ref 97), some (.int x1), none] [] (cw (km κ) cs I J W) (.inl none) (cw (km κ) cs r.1 r.2 W)) (x1 : Int32) (I : (Nat → Nat → Int32)) (J : (Nat → Nat → Int64)) (r : ((Nat → Nat → Int32) × (Nat → Nat → Int64))) (h : lb_159_13 c2 x1 I J = some r) : tt (d + 5) me_159 bk_159_13 [some (.ref 97), some (.int x1), none] [] (cw (km κ) cs I J W) (.inl none) (cw (km κ) cs r.1 r.2 W) :=
  tt_C (L1 := (bk_159_13.drop 3)) 3 [some (.ref 97), some (.int x1), none] [] (cw (km κ) cs I J W) h (fun _ => rfl) (fun _ e => m_152 (d := d + 3) e) fun q19 h =>
  tt_C (L1 := (bk_159_13.drop 7)) 4 [some (.ref 97), some (.int x1), none] [.ref 97] (cw (km κ) cs q19 J W) h (fun _ => rfl) (fun _ e => m_146 (d := d + 4) e) fun q20 h =>
  tt_I (L1 := bk_159_14) (L2 := (bk_159_13.drop 8)) 1 [some (.ref 97), some (.int x1), none] [.ref 97] (cw (km κ) cs q19 J W) h (fun _ => rfl) (fun h =>
  tt_J (L1 := bk_159_15) 0 [some (.ref 97), some (.int x1), none] [.int (9 : Int32), .ref 97] (cw (km κ) cs q19 J W) (fun _ => rfl) (tt_F [some (.ref 97), some (.int x1), none] (And.intro rfl (And.intro rfl trivial)) (tl_159_15 c2 k2 x1 (9 : Int32) q19 J _ h))) (fun h =>
  tt_J (L1 := bk_159_15) 1 [some (.ref 97), some (.int x1), none] [.int (8 : Int32), .ref 97] (cw (km κ) cs q19 J W) (fun _ => rfl) (tt_F [some (.ref 97), some (.int x1), none] (And.intro rfl (And.intro rfl trivial)) (tl_159_15 c2 k2 x1 (8 : Int32) q19 J _ h)))
theorem tl_159_19 {d : Nat} {κ : KT} {cs : Nat × Nat} {W : Nat} (c2 : Int32 → (Nat → Nat → Int32) → (Nat → Nat → Int64) → Option ((Nat → Nat → Int32) × (Nat → Nat → Int64))) (k2 : ∀ (x1 : Int32) (I : (Nat → Nat → Int32)) (J : (Nat → Nat → Int64)) (r : ((Nat → Nat → Int32) × (Nat → Nat → Int64))), c2 x1 I J = some r → tt (d + 5) me_159 bk_159_2 [some (.ref 97), some (.int x1), none] [] (cw (km κ) cs I J W) (.inl none) (cw (km κ) cs r.1 r.2 W)) (x1 : Int32) (s1 : Int32) (I : (Nat → Nat → Int32)) (J : (Nat → Nat → Int64)) (r : ((Nat → Nat → Int32) × (Nat → Nat → Int64))) (h : lb_159_19 c2 x1 s1 I J = some r) : tt (d + 5) me_159 bk_159_19 [some (.ref 97), some (.int x1), none] [.int s1, .ref 97] (cw (km κ) cs I J W) (.inl none) (cw (km κ) cs r.1 r.2 W) :=
  tt_C (L1 := (bk_159_19.drop 1)) 1 [some (.ref 97), some (.int x1), none] [] (cw (km κ) cs I J W) h (fun _ => rfl) (fun _ e => m_153 (d := d + 4) e) fun q28 h =>
  tt_C (L1 := (bk_159_19.drop 3)) 2 [some (.ref 97), some (.int x1), none] [] (cw (km κ) cs q28 J W) h (fun _ => rfl) (fun _ e => m_140 (d := d + 3) e) fun q29 h =>
  tt_C (L1 := (bk_159_19.drop 6)) 3 [some (.ref 97), some (.int x1), none] [] (cw (km κ) cs q29.1 q29.2 W) h (fun _ => rfl) (fun _ e => m_156 (d := d) e) fun q30 h =>
  tt_J (L1 := bk_159_22) 0 [some (.ref 97), some (.int x1), none] [] (cw (km κ) cs q30.1 q30.2 W) (fun _ => rfl) (tt_F [some (.ref 97), some (.int x1), none] (And.intro rfl (And.intro rfl trivial)) (tl_159_22 c2 k2 x1 q30.1 q30.2 _ h))
theorem tl_159_17 {d : Nat} {κ : KT} {cs : Nat × Nat} {W : Nat} (c2 : Int32 → (Nat → Nat → Int32) → (Nat → Nat → Int64) → Option ((Nat → Nat → Int32) × (Nat → Nat → Int64))) (k2 : ∀ (x1 : Int32) (I : (Nat → Nat → Int32)) (J : (Nat → Nat → Int64)) (r : ((Nat → Nat → Int32) × (Nat → Nat → Int64))), c2 x1 I J = some r → tt (d + 5) me_159 bk_159_2 [some (.ref 97), some (.int x1), none] [] (cw (km κ) cs I J W) (.inl none) (cw (km κ) cs r.1 r.2 W)) (x1 : Int32) (I : (Nat → Nat → Int32)) (J : (Nat → Nat → Int64)) (r : ((Nat → Nat → Int32) × (Nat → Nat → Int64))) (h : lb_159_17 c2 x1 I J = some r) : tt (d + 5) me_159 bk_159_17 [some (.ref 97), some (.int x1), none] [] (cw (km κ) cs I J W) (.inl none) (cw (km κ) cs r.1 r.2 W) :=
  tt_C (L1 := (bk_159_17.drop 3)) 3 [some (.ref 97), some (.int x1), none] [] (cw (km κ) cs I J W) h (fun _ => rfl) (fun _ e => m_152 (d := d + 3) e) fun q26 h =>
  tt_C (L1 := (bk_159_17.drop 7)) 4 [some (.ref 97), some (.int x1), none] [.ref 97] (cw (km κ) cs q26 J W) h (fun _ => rfl) (fun _ e => m_146 (d := d + 4) e) fun q27 h =>
  tt_I (L1 := bk_159_18) (L2 := (bk_159_17.drop 8)) 1 [some (.ref 97), some (.int x1), none] [.ref 97] (cw (km κ) cs q26 J W) h (fun _ => rfl) (fun h =>
  tt_J (L1 := bk_159_19) 0 [some (.ref 97), some (.int x1), none] [.int (11 : Int32), .ref 97] (cw (km κ) cs q26 J W) (fun _ => rfl) (tt_F [some (.ref 97), some (.int x1), none] (And.intro rfl (And.intro rfl trivial)) (tl_159_19 c2 k2 x1 (11 : Int32) q26 J _ h))) (fun h =>
  tt_J (L1 := bk_159_19) 1 [some (.ref 97), some (.int x1), none] [.int (10 : Int32), .ref 97] (cw (km κ) cs q26 J W) (fun _ => rfl) (tt_F [some (.ref 97), some (.int x1), none] (And.intro rfl (And.intro rfl trivial)) (tl_159_19 c2 k2 x1 (10 : Int32) q26 J _ h)))
theorem tl_159_21 {d : Nat} {κ : KT} {cs : Nat × Nat} {W : Nat} (c2 : Int32 → (Nat → Nat → Int32) → (Nat → Nat → Int64) → Option ((Nat → Nat → Int32) × (Nat → Nat → Int64))) (k2 : ∀ (x1 : Int32) (I : (Nat → Nat → Int32)) (J : (Nat → Nat → Int64)) (r : ((Nat → Nat → Int32) × (Nat → Nat → Int64))), c2 x1 I J = some r → tt (d + 5) me_159 bk_159_2 [some (.ref 97), some (.int x1), none] [] (cw (km κ) cs I J W) (.inl none) (cw (km κ) cs r.1 r.2 W)) (I : (Nat → Nat → Int32)) (J : (Nat → Nat → Int64)) (r : ((Nat → Nat → Int32) × (Nat → Nat → Int64))) (h : lb_159_21 c2  I J = some r) : tt (d + 5) me_159 bk_159_21 [some (.ref 97), none, none] [] (cw (km κ) cs I J W) (.inl none) (cw (km κ) cs r.1 r.2 W) :=
  tt_J (L1 := bk_159_22) 1 [some (.ref 97), some (.int (0 : Int32)), none] [] (cw (km κ) cs I J W) (fun _ => rfl) (tt_F [some (.ref 97), some (.int (0 : Int32)), none] (And.intro rfl (And.intro rfl trivial)) (tl_159_22 c2 k2 (0 : Int32) I J _ h))
theorem tl_159_12 {d : Nat} {κ : KT} {cs : Nat × Nat} {W : Nat} (c2 : Int32 → (Nat → Nat → Int32) → (Nat → Nat → Int64) → Option ((Nat → Nat → Int32) × (Nat → Nat → Int64))) (k2 : ∀ (x1 : Int32) (I : (Nat → Nat → Int32)) (J : (Nat → Nat → Int64)) (r : ((Nat → Nat → Int32) × (Nat → Nat → Int64))), c2 x1 I J = some r → tt (d + 5) me_159 bk_159_2 [some (.ref 97), some (.int x1), none] [] (cw (km κ) cs I J W) (.inl none) (cw (km κ) cs r.1 r.2 W)) (x1 : Int32) (I : (Nat → Nat → Int32)) (J : (Nat → Nat → Int64)) (r : ((Nat → Nat → Int32) × (Nat → Nat → Int64))) (h : lb_159_12 c2 x1 I J = some r) : tt (d + 5) me_159 bk_159_12 [some (.ref 97), some (.int x1), none] [] (cw (km κ) cs I J W) (.inl none) (cw (km κ) cs r.1 r.2 W) :=
  tt_C (L1 := (bk_159_12.drop 3)) 3 [some (.ref 97), some (.int x1), none] [] (cw (km κ) cs I J W) h (fun _ => rfl) (fun _ e => m_146 (d := d + 4) e) fun q18 h =>
  tt_I (L1 := (bk_159_12.drop 4)) (L2 := bk_159_13) 1 [some (.ref 97), some (.int x1), none] [] (cw (km κ) cs I J W) h (fun _ => rfl) (fun h =>
  tt_C (L1 := (bk_159_12.drop 7)) 3 [some (.ref 97), some (.int x1), none] [] (cw (km κ) cs I J W) h (fun _ => rfl) (fun _ e => m_146 (d := d + 4) e) fun q24 h =>
  tt_I (L1 := bk_159_16) (L2 := bk_159_13) 1 [some (.ref 97), some (.int x1), none] [] (cw (km κ) cs I J W) h (fun _ => rfl) (fun h =>
  tt_C (L1 := (bk_159_16.drop 3)) 3 [some (.ref 97), some (.int x1), none] [] (cw (km κ) cs I J W) h (fun _ => rfl) (fun _ e => m_146 (d := d + 4) e) fun q25 h =>
  tt_I (L1 := (bk_159_16.drop 4)) (L2 := bk_159_17) 1 [some (.ref 97), some (.int x1), none] [] (cw (km κ) cs I J W) h (fun _ => rfl) (fun h =>
  tt_C (L1 := (bk_159_16.drop 7)) 3 [some (.ref 97), some (.int x1), none] [] (cw (km κ) cs I J W) h (fun _ => rfl) (fun _ e => m_146 (d := d + 4) e) fun q31 h =>
  tt_I (L1 := bk_159_20) (L2 := bk_159_17) 1 [some (.ref 97), some (.int x1), none] [] (cw (km κ) cs I J W) h (fun _ => rfl) (fun h =>
  tt_C (L1 := (bk_159_20.drop 3)) 3 [some (.ref 97), some (.int x1), none] [] (cw (km κ) cs I J W) h (fun _ => rfl) (fun _ e => m_146 (d := d + 4) e) fun q32 h =>
  tt_I (L1 := bk_159_21) (L2 := (bk_159_20.drop 4)) 1 [some (.ref 97), some (.int x1), none] [] (cw (km κ) cs I J W) h (fun _ => rfl) (fun h =>
  tt_F [some (.ref 97), none, none] (And.intro rfl trivial) (tl_159_21 c2 k2  I J _ h)) (fun h =>
  tt_C (L1 := (bk_159_20.drop 6)) 2 [some (.ref 97), some (.int x1), none] [] (cw (km κ) cs I J W) h (fun _ => rfl) (fun _ e => m_157 (d := d + 3) e) fun q33 h =>
  tt_I (L1 := bk_159_21) (L2 := (bk_159_20.drop 7)) 1 [some (.ref 97), some (.int x1), none] [] (cw (km κ) cs I J W) h (fun _ => rfl) (fun h =>
  tt_F [some (.ref 97), none, none] (And.intro rfl trivial) (tl_159_21 c2 k2  I J _ h)) (fun h =>
  tt_C (L1 := (bk_159_20.drop 9)) 2 [some (.ref 97), some (.int x1), none] [] (cw (km κ) cs I J W) h (fun _ => rfl) (fun _ e => m_158 (d := d + 2) e) fun q34 h =>
  tt_J (L1 := bk_159_22) 0 [some (.ref 97), some (.int x1), none] [] (cw (km κ) cs q34.1 q34.2 W) (fun _ => rfl) (tt_F [some (.ref 97), some (.int x1), none] (And.intro rfl (And.intro rfl trivial)) (tl_159_22 c2 k2 x1 q34.1 q34.2 _ h))))) (fun h =>
  tt_F [some (.ref 97), some (.int x1), none] (And.intro rfl (And.intro rfl trivial)) (tl_159_17 c2 k2 x1 I J _ h))) (fun h =>
  tt_F [some (.ref 97), some (.int x1), none] (And.intro rfl (And.intro rfl trivial)) (tl_159_17 c2 k2 x1 I J _ h))) (fun h =>
  tt_F [some (.ref 97), some (.int x1), none] (And.intro rfl (And.intro rfl trivial)) (tl_159_13 c2 k2 x1 I J _ h))) (fun h =>
  tt_F [some (.ref 97), some (.int x1), none] (And.intro rfl (And.intro rfl trivial)) (tl_159_13 c2 k2 x1 I J _ h))
theorem tl_159_11 {d : Nat} {κ : KT} {cs : Nat × Nat} {W : Nat} (c2 : Int32 → (Nat → Nat → Int32) → (Nat → Nat → Int64) → Option ((Nat → Nat → Int32) × (Nat → Nat → Int64))) (k2 : ∀ (x1 : Int32) (I : (Nat → Nat → Int32)) (J : (Nat → Nat → Int64)) (r : ((Nat → Nat → Int32) × (Nat → Nat → Int64))), c2 x1 I J = some r → tt (d + 5) me_159 bk_159_2 [some (.ref 97), some (.int x1), none] [] (cw (km κ) cs I J W) (.inl none) (cw (km κ) cs r.1 r.2 W)) (x1 : Int32) (s1 : Int32) (I : (Nat → Nat → Int32)) (J : (Nat → Nat → Int64)) (r : ((Nat → Nat → Int32) × (Nat → Nat → Int64))) (h : lb_159_11 c2 x1 s1 I J = some r) : tt (d + 5) me_159 bk_159_11 [some (.ref 97), some (.int x1), none] [.int s1, .ref 97] (cw (km κ) cs I J W) (.inl none) (cw (km κ) cs r.1 r.2 W) :=
  tt_C (L1 := (bk_159_11.drop 1)) 1 [some (.ref 97), some (.int x1), none] [] (cw (km κ) cs I J W) h (fun _ => rfl) (fun _ e => m_153 (d := d + 4) e) fun q37 h =>
  let I38 := up q37 109 ((q37 97 31)).toNatClampNeg (vp_nar .boolean (1 : Int32))
  tt_J (L1 := (bk_159_11.drop 6)) 4 [some (.ref 97), some (.int x1), none] [.int (1 : Int32), .int (q37 97 31), .ref 109] (cw (km κ) cs q37 J W) (fun _ => rfl) (
  tt_Wz rfl (Nat.le_of_ble_eq_true rfl) h fun h =>
  tt_C (L1 := (bk_159_11.drop 9)) 2 [some (.ref 97), some (.int x1), none] [] (cw (km κ) cs I38 J W) h (fun _ => rfl) (fun _ e => m_140 (d := d + 3) e) fun q39 h =>
  tt_C (L1 := (bk_159_11.drop 12)) 3 [some (.ref 97), some (.int x1), none] [] (cw (km κ) cs q39.1 q39.2 W) h (fun _ => rfl) (fun _ e => m_156 (d := d) e) fun q40 h =>
  tt_J (L1 := bk_159_22) 0 [some (.ref 97), some (.int x1), none] [] (cw (km κ) cs q40.1 q40.2 W) (fun _ => rfl) (tt_F [some (.ref 97), some (.int x1), none] (And.intro rfl (And.intro rfl trivial)) (tl_159_22 c2 k2 x1 q40.1 q40.2 _ h)))
theorem tl_159_9 {d : Nat} {κ : KT} {cs : Nat × Nat} {W : Nat} (c2 : Int32 → (Nat → Nat → Int32) → (Nat → Nat → Int64) → Option ((Nat → Nat → Int32) × (Nat → Nat → Int64))) (k2 : ∀ (x1 : Int32) (I : (Nat → Nat → Int32)) (J : (Nat → Nat → Int64)) (r : ((Nat → Nat → Int32) × (Nat → Nat → Int64))), c2 x1 I J = some r → tt (d + 5) me_159 bk_159_2 [some (.ref 97), some (.int x1), none] [] (cw (km κ) cs I J W) (.inl none) (cw (km κ) cs r.1 r.2 W)) (x1 : Int32) (I : (Nat → Nat → Int32)) (J : (Nat → Nat → Int64)) (r : ((Nat → Nat → Int32) × (Nat → Nat → Int64))) (h : lb_159_9 c2 x1 I J = some r) : tt (d + 5) me_159 bk_159_9 [some (.ref 97), some (.int x1), none] [] (cw (km κ) cs I J W) (.inl none) (cw (km κ) cs r.1 r.2 W) :=
  tt_J (L1 := (bk_159_9.drop 4)) 3 [some (.ref 97), some (.int x1), none] [.int (I 97 31), .ref 109] (cw (km κ) cs I J W) (fun _ => rfl) (
  tt_Qz rfl h fun h =>
  tt_I (L1 := (bk_159_9.drop 6)) (L2 := bk_159_12) 1 [some (.ref 97), some (.int x1), none] [] (cw (km κ) cs I J W) h (fun _ => rfl) (fun h =>
  tt_C (L1 := (bk_159_9.drop 9)) 3 [some (.ref 97), some (.int x1), none] [] (cw (km κ) cs I J W) h (fun _ => rfl) (fun _ e => m_152 (d := d + 3) e) fun q35 h =>
  tt_C (L1 := (bk_159_9.drop 13)) 4 [some (.ref 97), some (.int x1), none] [.ref 97] (cw (km κ) cs q35 J W) h (fun _ => rfl) (fun _ e => m_146 (d := d + 4) e) fun q36 h =>
  tt_I (L1 := bk_159_10) (L2 := (bk_159_9.drop 14)) 1 [some (.ref 97), some (.int x1), none] [.ref 97] (cw (km κ) cs q35 J W) h (fun _ => rfl) (fun h =>
  tt_J (L1 := bk_159_11) 0 [some (.ref 97), some (.int x1), none] [.int (7 : Int32), .ref 97] (cw (km κ) cs q35 J W) (fun _ => rfl) (tt_F [some (.ref 97), some (.int x1), none] (And.intro rfl (And.intro rfl trivial)) (tl_159_11 c2 k2 x1 (7 : Int32) q35 J _ h))) (fun h =>
  tt_J (L1 := bk_159_11) 1 [some (.ref 97), some (.int x1), none] [.int (6 : Int32), .ref 97] (cw (km κ) cs q35 J W) (fun _ => rfl) (tt_F [some (.ref 97), some (.int x1), none] (And.intro rfl (And.intro rfl trivial)) (tl_159_11 c2 k2 x1 (6 : Int32) q35 J _ h)))) (fun h =>
  tt_F [some (.ref 97), some (.int x1), none] (And.intro rfl (And.intro rfl trivial)) (tl_159_12 c2 k2 x1 I J _ h)))
theorem tb_159_2 {d : Nat} {κ : KT} {cs : Nat × Nat} {W : Nat} (c2 : Int32 → (Nat → Nat → Int32) → (Nat → Nat → Int64) → Option ((Nat → Nat → Int32) × (Nat → Nat → Int64))) (k2 : ∀ (x1 : Int32) (I : (Nat → Nat → Int32)) (J : (Nat → Nat → Int64)) (r : ((Nat → Nat → Int32) × (Nat → Nat → Int64))), c2 x1 I J = some r → tt (d + 5) me_159 bk_159_2 [some (.ref 97), some (.int x1), none] [] (cw (km κ) cs I J W) (.inl none) (cw (km κ) cs r.1 r.2 W)) (x1 : Int32) (I : (Nat → Nat → Int32)) (J : (Nat → Nat → Int64)) (r : ((Nat → Nat → Int32) × (Nat → Nat → Int64))) (h : bd_159_2  c2 x1 I J = some r) : tt (d + 5) me_159 bk_159_2 [some (.ref 97), some (.int x1), none] [] (cw (km κ) cs I J W) (.inl none) (cw (km κ) cs r.1 r.2 W) :=
  tt_I (L1 := bk_159_23) (L2 := (bk_159_2.drop 2)) 2 [some (.ref 97), some (.int x1), none] [] (cw (km κ) cs I J W) h (fun _ => rfl) (fun h =>
  tt_F [some (.ref 97), none, none] (And.intro rfl trivial) (tl_159_23   I J _ h)) (fun h =>
  tt_C (L1 := (bk_159_2.drop 4)) 2 [some (.ref 97), some (.int x1), none] [] (cw (km κ) cs I J W) h (fun _ => rfl) (fun _ e => m_145 (d := d + 4) e) fun q10 h =>
  tt_I (L1 := bk_159_23) (L2 := (bk_159_2.drop 5)) 1 [some (.ref 97), some (.int x1), none] [] (cw (km κ) cs I J W) h (fun _ => rfl) (fun h =>
  tt_F [some (.ref 97), none, none] (And.intro rfl trivial) (tl_159_23   I J _ h)) (fun h =>
  tt_C (L1 := (bk_159_2.drop 7)) 2 [some (.ref 97), some (.int x1), none] [] (cw (km κ) cs I J W) h (fun _ => rfl) (fun _ e => m_143 (d := d + 2) e) fun q11 h =>
  tt_I (L1 := bk_159_3) (L2 := (bk_159_2.drop 11)) 4 [some (.ref 97), some (.int x1), some (.int q11)] [] (cw (km κ) cs I J W) h (fun _ => rfl) (fun h =>
  tt_F [some (.ref 97), some (.int x1), some (.int q11)] (And.intro rfl (And.intro rfl (And.intro rfl trivial))) (tl_159_3 c2 k2 x1 q11 I J _ h)) (fun h =>
  tt_I (L1 := bk_159_3) (L2 := bk_159_8) 3 [some (.ref 97), some (.int x1), some (.int q11)] [] (cw (km κ) cs I J W) h (fun _ => rfl) (fun h =>
  tt_F [some (.ref 97), some (.int x1), some (.int q11)] (And.intro rfl (And.intro rfl (And.intro rfl trivial))) (tl_159_3 c2 k2 x1 q11 I J _ h)) (fun h =>
  tt_C (L1 := (bk_159_8.drop 3)) 3 [some (.ref 97), some (.int x1), some (.int q11)] [] (cw (km κ) cs I J W) h (fun _ => rfl) (fun _ e => m_146 (d := d + 4) e) fun q17 h =>
  tt_I (L1 := (bk_159_8.drop 4)) (L2 := bk_159_9) 1 [some (.ref 97), some (.int x1), some (.int q11)] [] (cw (km κ) cs I J W) h (fun _ => rfl) (fun h =>
  tt_C (L1 := (bk_159_8.drop 7)) 3 [some (.ref 97), some (.int x1), some (.int q11)] [] (cw (km κ) cs I J W) h (fun _ => rfl) (fun _ e => m_146 (d := d + 4) e) fun q41 h =>
  tt_I (L1 := bk_159_12) (L2 := bk_159_9) 1 [some (.ref 97), some (.int x1), some (.int q11)] [] (cw (km κ) cs I J W) h (fun _ => rfl) (fun h =>
  tt_F [some (.ref 97), some (.int x1), none] (And.intro rfl (And.intro rfl trivial)) (tl_159_12 c2 k2 x1 I J _ h)) (fun h =>
  tt_F [some (.ref 97), some (.int x1), none] (And.intro rfl (And.intro rfl trivial)) (tl_159_9 c2 k2 x1 I J _ h))) (fun h =>
  tt_F [some (.ref 97), some (.int x1), none] (And.intro rfl (And.intro rfl trivial)) (tl_159_9 c2 k2 x1 I J _ h))))))
theorem tn_159_2 {d : Nat} {κ : KT} {cs : Nat × Nat} {W : Nat} : ∀ (n : Nat) (x1 : Int32) (I : (Nat → Nat → Int32)) (J : (Nat → Nat → Int64)) (r : ((Nat → Nat → Int32) × (Nat → Nat → Int64))), fx (fun _ _ _ => none) (bd_159_2 ) n x1 I J = some r → tt (d + 5) me_159 bk_159_2 [some (.ref 97), some (.int x1), none] [] (cw (km κ) cs I J W) (.inl none) (cw (km κ) cs r.1 r.2 W)
  | 0 => fun _ _ _ _ h => nomatch h
  | n + 1 => fun x1 I J r h => tb_159_2  (fx _ (bd_159_2 ) n) (tn_159_2  n) x1 I J r h
theorem tl_159_2 {d : Nat} {κ : KT} {cs : Nat × Nat} {W : Nat} (x1 : Int32) (I : (Nat → Nat → Int32)) (J : (Nat → Nat → Int64)) (r : ((Nat → Nat → Int32) × (Nat → Nat → Int64))) (h : lb_159_2  x1 I J = some r) : tt (d + 5) me_159 bk_159_2 [some (.ref 97), some (.int x1), none] [] (cw (km κ) cs I J W) (.inl none) (cw (km κ) cs r.1 r.2 W) := tn_159_2  FU x1 I J r h
theorem m_159 {d : Nat} {κ : KT} {cs : Nat × Nat} {W : Nat} {I : (Nat → Nat → Int32)} {J : (Nat → Nat → Int64)} {r : ((Nat → Nat → Int32) × (Nat → Nat → Int64))} (h : f_159  I J = some r) : tm (d + 5) 159 [.ref 97] (cw (km κ) cs I J W) (.inl none) (cw (km κ) cs r.1 r.2 W) :=
  tm_of me_159 rfl (Nat.le_of_ble_eq_true rfl) (
  tt_C (L1 := (bk_159_0.drop 2)) 2 [some (.ref 97), none, none] [] (cw (km κ) cs I J W) h (fun _ => rfl) (fun _ e => m_145 (d := d + 4) e) fun q1 h =>
  tt_I (L1 := (bk_159_0.drop 3)) (L2 := bk_159_1) 1 [some (.ref 97), none, none] [] (cw (km κ) cs I J W) h (fun _ => rfl) (fun h =>
  tt_R 1 (fun r => (.inl none)) (fun r => (cw (km κ) cs r.1 r.2 W)) h (fun _ => rfl)) (fun h =>
  let I2 := up I 97 30 (0 : Int32)
  let I3 := up I2 97 31 (0 : Int32)
  tt_J (L1 := (bk_159_1.drop 6)) 5 [some (.ref 97), none, none] [] (cw (km κ) cs I3 J W) (fun _ => rfl) (
  tt_C (L1 := (bk_159_1.drop 8)) 2 [some (.ref 97), none, none] [] (cw (km κ) cs I3 J W) h (fun _ => rfl) (fun _ e => m_155 (d := d + 3) e) fun q4 h =>
  tt_C (L1 := (bk_159_1.drop 11)) 3 [some (.ref 97), none, none] [] (cw (km κ) cs q4 J W) h (fun _ => rfl) (fun _ e => m_156 (d := d) e) fun q5 h =>
  tt_J (L1 := bk_159_2) 1 [some (.ref 97), some (.int (1 : Int32)), none] [] (cw (km κ) cs q5.1 q5.2 W) (fun _ => rfl) (tt_F [some (.ref 97), some (.int (1 : Int32)), none] (And.intro rfl (And.intro rfl trivial)) (tl_159_2  (1 : Int32) q5.1 q5.2 _ h)))))
/- 160 -/
def lb_160_2 (I : (Nat → Nat → Int32)) (J : (Nat → Nat → Int64)) : Option (Int32 × (Nat → Nat → Int32) × (Nat → Nat → Int64)) :=
  ((f_145  I).bind fun q3 => (if (q3 = 0 ∨ q3 = 1) then some (q3, I, J) else none))
def lb_160_1 (x1 : Int32) (I : (Nat → Nat → Int32)) (J : (Nat → Nat → Int64)) : Option (Int32 × (Nat → Nat → Int32) × (Nat → Nat → Int64)) :=
  (let I1 := up I 97 28 ((I 97 28) ||| ((1 : Int32) <<< (x1 &&& 31)))
  ((f_145  I1).bind fun q2 => (if q2 = 0 then (lb_160_2   I1 J) else ((f_140  I1 J).bind fun q4 => (lb_160_2   q4.1 q4.2)))))
def f_160 (x1 : Int32) (I : (Nat → Nat → Int32)) (J : (Nat → Nat → Int64)) : Option (Int32 × (Nat → Nat → Int32) × (Nat → Nat → Int64)) :=
  (if (((I 97 28) >>> (x1 &&& 31)) &&& (1 : Int32)) = (1 : Int32) then ((f_144 (4 : Int32) I).bind fun q5 => (lb_160_1  x1 q5 J)) else (lb_160_1  x1 I J))
theorem tl_160_2 {d : Nat} {κ : KT} {cs : Nat × Nat} {W : Nat} (I : (Nat → Nat → Int32)) (J : (Nat → Nat → Int64)) (r : (Int32 × (Nat → Nat → Int32) × (Nat → Nat → Int64))) (h : lb_160_2   I J = some r) : tt (d + 2) me_160 bk_160_2 [some (.ref 97), none] [] (cw (km κ) cs I J W) (.inl (some (.int r.1))) (cw (km κ) cs r.2.1 r.2.2 W) :=
  tt_C (L1 := (bk_160_2.drop 2)) 2 [some (.ref 97), none] [] (cw (km κ) cs I J W) h (fun _ => rfl) (fun _ e => m_145 (d := d + 1) e) fun q3 h =>
  tt_B 1 (fun r => (.inl (some (.int r.1)))) (fun r => (cw (km κ) cs r.2.1 r.2.2 W)) h (fun q => Or.inr (Or.inl ⟨rfl, q⟩)) (fun _ => rfl)
theorem tl_160_1 {d : Nat} {κ : KT} {cs : Nat × Nat} {W : Nat} (x1 : Int32) (I : (Nat → Nat → Int32)) (J : (Nat → Nat → Int64)) (r : (Int32 × (Nat → Nat → Int32) × (Nat → Nat → Int64))) (h : lb_160_1  x1 I J = some r) : tt (d + 2) me_160 bk_160_1 [some (.ref 97), some (.int x1)] [] (cw (km κ) cs I J W) (.inl (some (.int r.1))) (cw (km κ) cs r.2.1 r.2.2 W) :=
  let I1 := up I 97 28 ((I 97 28) ||| ((1 : Int32) <<< (x1 &&& 31)))
  tt_C (L1 := (bk_160_1.drop 10)) 10 [some (.ref 97), some (.int x1)] [] (cw (km κ) cs I1 J W) (show ((f_145  I1).bind fun q2 => (if q2 = 0 then (lb_160_2   I1 J) else ((f_140  I1 J).bind fun q4 => (lb_160_2   q4.1 q4.2)))) = some r from h) (fun _ => rfl) (fun _ e => m_145 (d := d + 1) e) fun q2 h =>
  tt_I (L1 := bk_160_2) (L2 := (bk_160_1.drop 11)) 1 [some (.ref 97), some (.int x1)] [] (cw (km κ) cs I1 J W) h (fun _ => rfl) (fun h =>
  tt_F [some (.ref 97), none] (And.intro rfl trivial) (tl_160_2   I1 J _ h)) (fun h =>
  tt_C (L1 := bk_160_2) 2 [some (.ref 97), some (.int x1)] [] (cw (km κ) cs I1 J W) h (fun _ => rfl) (fun _ e => m_140 (d := d) e) fun q4 h =>
  tt_F [some (.ref 97), none] (And.intro rfl trivial) (tl_160_2   q4.1 q4.2 _ h))
theorem m_160 {d : Nat} {κ : KT} {cs : Nat × Nat} {W : Nat} {x1 : Int32} {I : (Nat → Nat → Int32)} {J : (Nat → Nat → Int64)} {r : (Int32 × (Nat → Nat → Int32) × (Nat → Nat → Int64))} (h : f_160 x1 I J = some r) : tm (d + 2) 160 [.ref 97, .int x1] (cw (km κ) cs I J W) (.inl (some (.int r.1))) (cw (km κ) cs r.2.1 r.2.2 W) :=
  tm_of me_160 rfl (Nat.le_of_ble_eq_true rfl) (
  tt_I (L1 := (bk_160_0.drop 8)) (L2 := bk_160_1) 8 [some (.ref 97), some (.int x1)] [] (cw (km κ) cs I J W) h (fun _ => rfl) (fun h =>
  tt_C (L1 := bk_160_1) 3 [some (.ref 97), some (.int x1)] [] (cw (km κ) cs I J W) h (fun _ => rfl) (fun _ e => m_144 (d := d + 1) e) fun q5 h =>
  tt_F [some (.ref 97), some (.int x1)] (And.intro rfl (And.intro rfl trivial)) (tl_160_1  x1 q5 J _ h)) (fun h =>
  tt_F [some (.ref 97), some (.int x1)] (And.intro rfl (And.intro rfl trivial)) (tl_160_1  x1 I J _ h)))
/- 161 -/
def lb_161_17 (I : (Nat → Nat → Int32)) (J : (Nat → Nat → Int64)) : Option ((Nat → Nat → Int32) × (Nat → Nat → Int64)) :=
  ((f_146 (59 : Int32) I).bind fun q3 => ((f_147 q3 I J).bind fun q4 => (some (q4.1, q4.2))))
def lb_161_15 (x2 : Int32) (x3 : Int32) (s1 : Int32) (I : (Nat → Nat → Int32)) (J : (Nat → Nat → Int64)) : Option ((Nat → Nat → Int32) × (Nat → Nat → Int64)) :=
  ((f_147 s1 I J).bind fun q12 => (if ex_in (q12.1 97 25) 8 then let I13 := up q12.1 104 ((q12.1 97 25)).toNatClampNeg (x2 - (7 : Int32))
  (if ex_in (I13 97 25) 8 then let I14 := up I13 105 ((I13 97 25)).toNatClampNeg (x3 - (10 : Int32))
  (if ex_in (I14 97 25) 8 then let I15 := up I14 106 ((I14 97 25)).toNatClampNeg (I14 97 29)
  (let I16 := up I15 97 25 ((I15 97 25) + (1 : Int32))
  ((f_159  I16 q12.2).bind fun q17 => (lb_161_17   q17.1 q17.2))) else none) else none) else none))
def lb_161_14 (x2 : Int32) (x3 : Int32) (I : (Nat → Nat → Int32)) (J : (Nat → Nat → Int64)) : Option ((Nat → Nat → Int32) × (Nat → Nat → Int64)) :=
  (lb_161_15  x2 x3 (0 : Int32) I J)
def lb_161_13 (x2 : Int32) (x3 : Int32) (s1 : Int32) (I : (Nat → Nat → Int32)) (J : (Nat → Nat → Int64)) : Option ((Nat → Nat → Int32) × (Nat → Nat → Int64)) :=
  ((f_147 s1 I J).bind fun q10 => ((f_145  q10.1).bind fun q11 => (if q11 = 0 then (lb_161_14  x2 x3 q10.1 q10.2) else ((f_143  q10.1 q10.2).bind fun q18 => (if q18 = (12 : Int32) then (lb_161_15  x2 x3 (1 : Int32) q10.1 q10.2) else (lb_161_14  x2 x3 q10.1 q10.2))))))
def lb_161_11 (x2 : Int32) (x3 : Int32) (I : (Nat → Nat → Int32)) (J : (Nat → Nat → Int64)) : Option ((Nat → Nat → Int32) × (Nat → Nat → Int64)) :=
  (lb_161_13  x2 x3 (1 : Int32) I J)
def lb_161_10 (x2 : Int32) (s0 : Int32) (I : (Nat → Nat → Int32)) (J : (Nat → Nat → Int64)) : Option ((Nat → Nat → Int32) × (Nat → Nat → Int64)) :=
  (if s0 = (10 : Int32) then (lb_161_11  x2 s0 I J) else (if s0 = (11 : Int32) then (lb_161_11  x2 s0 I J) else (lb_161_13  x2 s0 (0 : Int32) I J)))
def lb_161_8 (x2 : Int32) (s1 : Int32) (I : (Nat → Nat → Int32)) (J : (Nat → Nat → Int64)) : Option ((Nat → Nat → Int32) × (Nat → Nat → Int64)) :=
  ((f_147 s1 I J).bind fun q8 => ((f_145  q8.1).bind fun q9 => (if q9 = 0 then (lb_161_10  x2 ((-1) : Int32) q8.1 q8.2) else ((f_143  q8.1 q8.2).bind fun q19 => (lb_161_10  x2 q19 q8.1 q8.2)))))
def lb_161_7 (x2 : Int32) (I : (Nat → Nat → Int32)) (J : (Nat → Nat → Int64)) : Option ((Nat → Nat → Int32) × (Nat → Nat → Int64)) :=
  (lb_161_8  x2 (0 : Int32) I J)
def lb_161_5 (I : (Nat → Nat → Int32)) (J : (Nat → Nat → Int64)) : Option ((Nat → Nat → Int32) × (Nat → Nat → Int64)) :=
  ((f_145  I).bind fun q5 => (if q5 = 0 then (some (I, J)) else ((f_140  I J).bind fun q6 => ((f_143  q6.1 q6.2).bind fun q7 => (if q7 < (7 : Int32) then (lb_161_7  q7 q6.1 q6.2) else (if (9 : Int32) < q7 then (lb_161_7  q7 q6.1 q6.2) else (lb_161_8  q7 (1 : Int32) q6.1 q6.2)))))))
def f_161 (I : (Nat → Nat → Int32)) (J : (Nat → Nat → Int64)) : Option ((Nat → Nat → Int32) × (Nat → Nat → Int64)) :=
  ((f_143  I J).bind fun q1 => (if q1 = (3 : Int32) then ((f_160 q1 I J).bind fun q30 => (if q30.1 = 0 then (lb_161_17   q30.2.1 q30.2.2) else ((f_148 (2 : Int32) (60 : Int32) q30.2.1 q30.2.2).bind fun q31 => (let I32 := up q31.2.1 97 23 q31.1
  (lb_161_17   I32 q31.2.2))))) else (if q1 = (2 : Int32) then ((f_160 q1 I J).bind fun q27 => (if q27.1 = 0 then (lb_161_17   q27.2.1 q27.2.2) else ((f_148 (2 : Int32) (6 : Int32) q27.2.1 q27.2.2).bind fun q28 => (let I29 := up q28.2.1 97 24 q28.1
  (lb_161_17   I29 q28.2.2))))) else (if q1 = (6 : Int32) then ((f_160 q1 I J).bind fun q24 => (if q24.1 = 0 then (lb_161_17   q24.2.1 q24.2.2) else ((f_148 (0 : Int32) (2 : Int32) q24.2.1 q24.2.2).bind fun q25 => (let I26 := up q25.2.1 97 26 q25.1
  (lb_161_17   I26 q25.2.2))))) else (if q1 = (1 : Int32) then ((f_160 q1 I J).bind fun q21 => (if q21.1 = 0 then (lb_161_17   q21.2.1 q21.2.2) else ((f_148 (0 : Int32) (59 : Int32) q21.2.1 q21.2.2).bind fun q22 => (let I23 := up q22.2.1 97 27 q22.1
  (lb_161_17   I23 q22.2.2))))) else (if q1 = 0 then (if (I 97 25) = (8 : Int32) then ((f_144 (2 : Int32) I).bind fun q20 => (lb_161_5   q20 J)) else (lb_161_5   I J)) else ((f_144 (1 : Int32) I).bind fun q2 => (lb_161_17   q2 J))))))))
theorem tl_161_17 {d : Nat} {κ : KT} {cs : Nat × Nat} {W : Nat} (I : (Nat → Nat → Int32)) (J : (Nat → Nat → Int64)) (r : ((Nat → Nat → Int32) × (Nat → Nat → Int64))) (h : lb_161_17   I J = some r) : tt (d + 6) me_161 bk_161_17 [some (.ref 97), none, none, none] [] (cw (km κ) cs I J W) (.inl none) (cw (km κ) cs r.1 r.2 W) :=
  tt_C (L1 := (bk_161_17.drop 4)) 4 [some (.ref 97), none, none, none] [.ref 97] (cw (km κ) cs I J W) h (fun _ => rfl) (fun _ e => m_146 (d := d + 5) e) fun q3 h =>
  tt_C (L1 := (bk_161_17.drop 5)) 1 [some (.ref 97), none, none, none] [] (cw (km κ) cs I J W) h (fun _ => rfl) (fun _ e => m_147 (d := d + 3) e) fun q4 h =>
  tt_R 1 (fun r => (.inl none)) (fun r => (cw (km κ) cs r.1 r.2 W)) h (fun _ => rfl)
theorem tl_161_15 {d : Nat} {κ : KT} {cs : Nat × Nat} {W : Nat} (x2 : Int32) (x3 : Int32) (s1 : Int32) (I : (Nat → Nat → Int32)) (J : (Nat → Nat → Int64)) (r : ((Nat → Nat → Int32) × (Nat → Nat → Int64))) (h : lb_161_15  x2 x3 s1 I J = some r) : tt (d + 6) me_161 bk_161_15 [some (.ref 97), none, some (.int x2), some (.int x3)] [.int s1, .ref 97] (cw (km κ) cs I J W) (.inl none) (cw (km κ) cs r.1 r.2 W) :=
  tt_C (L1 := (bk_161_15.drop 1)) 1 [some (.ref 97), none, some (.int x2), some (.int x3)] [] (cw (km κ) cs I J W) h (fun _ => rfl) (fun _ e => m_147 (d := d + 3) e) fun q12 h =>
  let I13 := up q12.1 104 ((q12.1 97 25)).toNatClampNeg (x2 - (7 : Int32))
  tt_J (L1 := (bk_161_15.drop 8)) 6 [some (.ref 97), none, some (.int x2), some (.int x3)] [.int (x2 - (7 : Int32)), .int (q12.1 97 25), .ref 104] (cw (km κ) cs q12.1 q12.2 W) (fun _ => rfl) (
  tt_Wi rfl (Nat.le_of_ble_eq_true rfl) h fun h =>
  let I14 := up I13 105 ((I13 97 25)).toNatClampNeg (x3 - (10 : Int32))
  tt_J (L1 := (bk_161_15.drop 16)) 6 [some (.ref 97), none, some (.int x2), some (.int x3)] [.int (x3 - (10 : Int32)), .int (I13 97 25), .ref 105] (cw (km κ) cs I13 q12.2 W) (fun _ => rfl) (
  tt_Wi rfl (Nat.le_of_ble_eq_true rfl) h fun h =>
  let I15 := up I14 106 ((I14 97 25)).toNatClampNeg (I14 97 29)
  tt_J (L1 := (bk_161_15.drop 23)) 5 [some (.ref 97), none, some (.int x2), some (.int x3)] [.int (I14 97 29), .int (I14 97 25), .ref 106] (cw (km κ) cs I14 q12.2 W) (fun _ => rfl) (
  tt_Wi rfl (Nat.le_of_ble_eq_true rfl) h fun h =>
  let I16 := up I15 97 25 ((I15 97 25) + (1 : Int32))
  tt_C (L1 := (bk_161_15.drop 32)) 8 [some (.ref 97), none, some (.int x2), some (.int x3)] [] (cw (km κ) cs I16 q12.2 W) h (fun _ => rfl) (fun _ e => m_159 (d := d) e) fun q17 h =>
  tt_J (L1 := bk_161_17) 0 [some (.ref 97), none, some (.int x2), some (.int x3)] [] (cw (km κ) cs q17.1 q17.2 W) (fun _ => rfl) (tt_F [some (.ref 97), none, none, none] (And.intro rfl trivial) (tl_161_17   q17.1 q17.2 _ h)))))
theorem tl_161_14 {d : Nat} {κ : KT} {cs : Nat × Nat} {W : Nat} (x2 : Int32) (x3 : Int32) (I : (Nat → Nat → Int32)) (J : (Nat → Nat → Int64)) (r : ((Nat → Nat → Int32) × (Nat → Nat → Int64))) (h : lb_161_14  x2 x3 I J = some r) : tt (d + 6) me_161 bk_161_14 [some (.ref 97), none, some (.int x2), some (.int x3)] [.ref 97] (cw (km κ) cs I J W) (.inl none) (cw (km κ) cs r.1 r.2 W) :=
  tt_J (L1 := bk_161_15) 0 [some (.ref 97), none, some (.int x2), some (.int x3)] [.int (0 : Int32), .ref 97] (cw (km κ) cs I J W) (fun _ => rfl) (tt_F [some (.ref 97), none, some (.int x2), some (.int x3)] (And.intro rfl (And.intro rfl (And.intro rfl trivial))) (tl_161_15  x2 x3 (0 : Int32) I J _ h))
theorem tl_161_13 {d : Nat} {κ : KT} {cs : Nat × Nat} {W : Nat} (x2 : Int32) (x3 : Int32) (s1 : Int32) (I : (Nat → Nat → Int32)) (J : (Nat → Nat → Int64)) (r : ((Nat → Nat → Int32) × (Nat → Nat → Int64))) (h : lb_161_13  x2 x3 s1 I J = some r) : tt (d + 6) me_161 bk_161_13 [some (.ref 97), none, some (.int x2), some (.int x3)] [.int s1, .ref 97] (cw (km κ) cs I J W) (.inl none) (cw (km κ) cs r.1 r.2 W) :=
  tt_C (L1 := (bk_161_13.drop 1)) 1 [some (.ref 97), none, some (.int x2), some (.int x3)] [] (cw (km κ) cs I J W) h (fun _ => rfl) (fun _ e => m_147 (d := d + 3) e) fun q10 h =>
  tt_C (L1 := (bk_161_13.drop 4)) 3 [some (.ref 97), none, some (.int x2), some (.int x3)] [.ref 97] (cw (km κ) cs q10.1 q10.2 W) h (fun _ => rfl) (fun _ e => m_145 (d := d + 5) e) fun q11 h =>
  tt_I (L1 := bk_161_14) (L2 := (bk_161_13.drop 5)) 1 [some (.ref 97), none, some (.int x2), some (.int x3)] [.ref 97] (cw (km κ) cs q10.1 q10.2 W) h (fun _ => rfl) (fun h =>
  tt_F [some (.ref 97), none, some (.int x2), some (.int x3)] (And.intro rfl (And.intro rfl (And.intro rfl trivial))) (tl_161_14  x2 x3 q10.1 q10.2 _ h)) (fun h =>
  tt_C (L1 := (bk_161_13.drop 7)) 2 [some (.ref 97), none, some (.int x2), some (.int x3)] [.ref 97] (cw (km κ) cs q10.1 q10.2 W) h (fun _ => rfl) (fun _ e => m_143 (d := d + 3) e) fun q18 h =>
  tt_I (L1 := (bk_161_13.drop 9)) (L2 := bk_161_14) 2 [some (.ref 97), none, some (.int x2), some (.int x3)] [.ref 97] (cw (km κ) cs q10.1 q10.2 W) h (fun _ => rfl) (fun h =>
  tt_J (L1 := bk_161_15) 1 [some (.ref 97), none, some (.int x2), some (.int x3)] [.int (1 : Int32), .ref 97] (cw (km κ) cs q10.1 q10.2 W) (fun _ => rfl) (tt_F [some (.ref 97), none, some (.int x2), some (.int x3)] (And.intro rfl (And.intro rfl (And.intro rfl trivial))) (tl_161_15  x2 x3 (1 : Int32) q10.1 q10.2 _ h))) (fun h =>
  tt_F [some (.ref 97), none, some (.int x2), some (.int x3)] (And.intro rfl (And.intro rfl (And.intro rfl trivial))) (tl_161_14  x2 x3 q10.1 q10.2 _ h)))
theorem tl_161_11 {d : Nat} {κ : KT} {cs : Nat × Nat} {W : Nat} (x2 : Int32) (x3 : Int32) (I : (Nat → Nat → Int32)) (J : (Nat → Nat → Int64)) (r : ((Nat → Nat → Int32) × (Nat → Nat → Int64))) (h : lb_161_11  x2 x3 I J = some r) : tt (d + 6) me_161 bk_161_11 [some (.ref 97), none, some (.int x2), some (.int x3)] [.ref 97] (cw (km κ) cs I J W) (.inl none) (cw (km κ) cs r.1 r.2 W) :=
  tt_J (L1 := bk_161_13) 1 [some (.ref 97), none, some (.int x2), some (.int x3)] [.int (1 : Int32), .ref 97] (cw (km κ) cs I J W) (fun _ => rfl) (tt_F [some (.ref 97), none, some (.int x2), some (.int x3)] (And.intro rfl (And.intro rfl (And.intro rfl trivial))) (tl_161_13  x2 x3 (1 : Int32) I J _ h))
theorem tl_161_10 {d : Nat} {κ : KT} {cs : Nat × Nat} {W : Nat} (x2 : Int32) (s0 : Int32) (I : (Nat → Nat → Int32)) (J : (Nat → Nat → Int64)) (r : ((Nat → Nat → Int32) × (Nat → Nat → Int64))) (h : lb_161_10  x2 s0 I J = some r) : tt (d + 6) me_161 bk_161_10 [some (.ref 97), none, some (.int x2), none] [.int s0] (cw (km κ) cs I J W) (.inl none) (cw (km κ) cs r.1 r.2 W) :=
  tt_I (L1 := bk_161_11) (L2 := (bk_161_10.drop 5)) 5 [some (.ref 97), none, some (.int x2), some (.int s0)] [.ref 97] (cw (km κ) cs I J W) h (fun _ => rfl) (fun h =>
  tt_F [some (.ref 97), none, some (.int x2), some (.int s0)] (And.intro rfl (And.intro rfl (And.intro rfl trivial))) (tl_161_11  x2 s0 I J _ h)) (fun h =>
  tt_I (L1 := bk_161_11) (L2 := bk_161_12) 3 [some (.ref 97), none, some (.int x2), some (.int s0)] [.ref 97] (cw (km κ) cs I J W) h (fun _ => rfl) (fun h =>
  tt_F [some (.ref 97), none, some (.int x2), some (.int s0)] (And.intro rfl (And.intro rfl (And.intro rfl trivial))) (tl_161_11  x2 s0 I J _ h)) (fun h =>
  tt_J (L1 := bk_161_13) 0 [some (.ref 97), none, some (.int x2), some (.int s0)] [.int (0 : Int32), .ref 97] (cw (km κ) cs I J W) (fun _ => rfl) (tt_F [some (.ref 97), none, some (.int x2), some (.int s0)] (And.intro rfl (And.intro rfl (And.intro rfl trivial))) (tl_161_13  x2 s0 (0 : Int32) I J _ h))))
theorem tl_161_8 {d : Nat} {κ : KT} {cs : Nat × Nat} {W : Nat} (x2 : Int32) (s1 : Int32) (I : (Nat → Nat → Int32)) (J : (Nat → Nat → Int64)) (r : ((Nat → Nat → Int32) × (Nat → Nat → Int64))) (h : lb_161_8  x2 s1 I J = some r) : tt (d + 6) me_161 bk_161_8 [some (.ref 97), none, some (.int x2), none] [.int s1, .ref 97] (cw (km κ) cs I J W) (.inl none) (cw (km κ) cs r.1 r.2 W) :=
  tt_C (L1 := (bk_161_8.drop 1)) 1 [some (.ref 97), none, some (.int x2), none] [] (cw (km κ) cs I J W) h (fun _ => rfl) (fun _ e => m_147 (d := d + 3) e) fun q8 h =>
  tt_C (L1 := (bk_161_8.drop 3)) 2 [some (.ref 97), none, some (.int x2), none] [] (cw (km κ) cs q8.1 q8.2 W) h (fun _ => rfl) (fun _ e => m_145 (d := d + 5) e) fun q9 h =>
  tt_I (L1 := bk_161_9) (L2 := (bk_161_8.drop 4)) 1 [some (.ref 97), none, some (.int x2), none] [] (cw (km κ) cs q8.1 q8.2 W) h (fun _ => rfl) (fun h =>
  tt_J (L1 := bk_161_10) 0 [some (.ref 97), none, some (.int x2), none] [.int ((-1) : Int32)] (cw (km κ) cs q8.1 q8.2 W) (fun _ => rfl) (tt_F [some (.ref 97), none, some (.int x2), none] (And.intro rfl (And.intro rfl trivial)) (tl_161_10  x2 ((-1) : Int32) q8.1 q8.2 _ h))) (fun h =>
  tt_C (L1 := (bk_161_8.drop 6)) 2 [some (.ref 97), none, some (.int x2), none] [] (cw (km κ) cs q8.1 q8.2 W) h (fun _ => rfl) (fun _ e => m_143 (d := d + 3) e) fun q19 h =>
  tt_J (L1 := bk_161_10) 0 [some (.ref 97), none, some (.int x2), none] [.int q19] (cw (km κ) cs q8.1 q8.2 W) (fun _ => rfl) (tt_F [some (.ref 97), none, some (.int x2), none] (And.intro rfl (And.intro rfl trivial)) (tl_161_10  x2 q19 q8.1 q8.2 _ h)))
theorem tl_161_7 {d : Nat} {κ : KT} {cs : Nat × Nat} {W : Nat} (x2 : Int32) (I : (Nat → Nat → Int32)) (J : (Nat → Nat → Int64)) (r : ((Nat → Nat → Int32) × (Nat → Nat → Int64))) (h : lb_161_7  x2 I J = some r) : tt (d + 6) me_161 bk_161_7 [some (.ref 97), none, some (.int x2), none] [.ref 97] (cw (km κ) cs I J W) (.inl none) (cw (km κ) cs r.1 r.2 W) :=
  tt_J (L1 := bk_161_8) 0 [some (.ref 97), none, some (.int x2), none] [.int (0 : Int32), .ref 97] (cw (km κ) cs I J W) (fun _ => rfl) (tt_F [some (.ref 97), none, some (.int x2), none] (And.intro rfl (And.intro rfl trivial)) (tl_161_8  x2 (0 : Int32) I J _ h))
theorem tl_161_5 {d : Nat} {κ : KT} {cs : Nat × Nat} {W : Nat} (I : (Nat → Nat → Int32)) (J : (Nat → Nat → Int64)) (r : ((Nat → Nat → Int32) × (Nat → Nat → Int64))) (h : lb_161_5   I J = some r) : tt (d + 6) me_161 bk_161_5 [some (.ref 97), none, none, none] [] (cw (km κ) cs I J W) (.inl none) (cw (km κ) cs r.1 r.2 W) :=
  tt_C (L1 := (bk_161_5.drop 2)) 2 [some (.ref 97), none, none, none] [] (cw (km κ) cs I J W) h (fun _ => rfl) (fun _ e => m_145 (d := d + 5) e) fun q5 h =>
  tt_I (L1 := (bk_161_5.drop 3)) (L2 := bk_161_6) 1 [some (.ref 97), none, none, none] [] (cw (km κ) cs I J W) h (fun _ => rfl) (fun h =>
  tt_R 1 (fun r => (.inl none)) (fun r => (cw (km κ) cs r.1 r.2 W)) h (fun _ => rfl)) (fun h =>
  tt_C (L1 := (bk_161_6.drop 2)) 2 [some (.ref 97), none, none, none] [] (cw (km κ) cs I J W) h (fun _ => rfl) (fun _ e => m_140 (d := d + 4) e) fun q6 h =>
  tt_C (L1 := (bk_161_6.drop 4)) 2 [some (.ref 97), none, none, none] [] (cw (km κ) cs q6.1 q6.2 W) h (fun _ => rfl) (fun _ e => m_143 (d := d + 3) e) fun q7 h =>
  tt_I (L1 := bk_161_7) (L2 := (bk_161_6.drop 9)) 5 [some (.ref 97), none, some (.int q7), none] [.ref 97] (cw (km κ) cs q6.1 q6.2 W) h (fun _ => rfl) (fun h =>
  tt_F [some (.ref 97), none, some (.int q7), none] (And.intro rfl (And.intro rfl trivial)) (tl_161_7  q7 q6.1 q6.2 _ h)) (fun h =>
  tt_I (L1 := bk_161_7) (L2 := (bk_161_6.drop 12)) 3 [some (.ref 97), none, some (.int q7), none] [.ref 97] (cw (km κ) cs q6.1 q6.2 W) h (fun _ => rfl) (fun h =>
  tt_F [some (.ref 97), none, some (.int q7), none] (And.intro rfl (And.intro rfl trivial)) (tl_161_7  q7 q6.1 q6.2 _ h)) (fun h =>
  tt_J (L1 := bk_161_8) 1 [some (.ref 97), none, some (.int q7), none] [.int (1 : Int32), .ref 97] (cw (km κ) cs q6.1 q6.2 W) (fun _ => rfl) (tt_F [some (.ref 97), none, some (.int q7), none] (And.intro rfl (And.intro rfl trivial)) (tl_161_8  q7 (1 : Int32) q6.1 q6.2 _ h)))))
theorem m_161 {d : Nat} {κ : KT} {cs : Nat × Nat} {W : Nat} {I : (Nat → Nat → Int32)} {J : (Nat → Nat → Int64)} {r : ((Nat → Nat → Int32) × (Nat → Nat → Int64))} (h : f_161  I J = some r) : tm (d + 6) 161 [.ref 97] (cw (km κ) cs I J W) (.inl none) (cw (km κ) cs r.1 r.2 W) :=
  tm_of me_161 rfl (Nat.le_of_ble_eq_true rfl) (
  tt_C (L1 := (bk_161_0.drop 2)) 2 [some (.ref 97), none, none, none] [] (cw (km κ) cs I J W) h (fun _ => rfl) (fun _ e => m_143 (d := d + 3) e) fun q1 h =>
  tt_I (L1 := (bk_161_0.drop 6)) (L2 := bk_161_1) 4 [some (.ref 97), some (.int q1), none, none] [] (cw (km κ) cs I J W) h (fun _ => rfl) (fun h =>
  tt_C (L1 := (bk_161_0.drop 9)) 3 [some (.ref 97), some (.int q1), none, none] [] (cw (km κ) cs I J W) h (fun _ => rfl) (fun _ e => m_160 (d := d + 3) e) fun q30 h =>
  tt_I (L1 := bk_161_17) (L2 := (bk_161_0.drop 10)) 1 [some (.ref 97), some (.int q1), none, none] [] (cw (km κ) cs q30.2.1 q30.2.2 W) h (fun _ => rfl) (fun h =>
  tt_F [some (.ref 97), none, none, none] (And.intro rfl trivial) (tl_161_17   q30.2.1 q30.2.2 _ h)) (fun h =>
  tt_C (L1 := (bk_161_0.drop 15)) 5 [some (.ref 97), some (.int q1), none, none] [.ref 97] (cw (km κ) cs q30.2.1 q30.2.2 W) h (fun _ => rfl) (fun _ e => m_148 (d := d + 3) e) fun q31 h =>
  let I32 := up q31.2.1 97 23 q31.1
  tt_J (L1 := bk_161_17) 1 [some (.ref 97), some (.int q1), none, none] [] (cw (km κ) cs I32 q31.2.2 W) (fun _ => rfl) (tt_F [some (.ref 97), none, none, none] (And.intro rfl trivial) (tl_161_17   I32 q31.2.2 _ h)))) (fun h =>
  tt_I (L1 := (bk_161_1.drop 3)) (L2 := bk_161_2) 3 [some (.ref 97), some (.int q1), none, none] [] (cw (km κ) cs I J W) h (fun _ => rfl) (fun h =>
  tt_C (L1 := (bk_161_1.drop 6)) 3 [some (.ref 97), some (.int q1), none, none] [] (cw (km κ) cs I J W) h (fun _ => rfl) (fun _ e => m_160 (d := d + 3) e) fun q27 h =>
  tt_I (L1 := bk_161_17) (L2 := (bk_161_1.drop 7)) 1 [some (.ref 97), some (.int q1), none, none] [] (cw (km κ) cs q27.2.1 q27.2.2 W) h (fun _ => rfl) (fun h =>
  tt_F [some (.ref 97), none, none, none] (And.intro rfl trivial) (tl_161_17   q27.2.1 q27.2.2 _ h)) (fun h =>
  tt_C (L1 := (bk_161_1.drop 12)) 5 [some (.ref 97), some (.int q1), none, none] [.ref 97] (cw (km κ) cs q27.2.1 q27.2.2 W) h (fun _ => rfl) (fun _ e => m_148 (d := d + 3) e) fun q28 h =>
  let I29 := up q28.2.1 97 24 q28.1
  tt_J (L1 := bk_161_17) 1 [some (.ref 97), some (.int q1), none, none] [] (cw (km κ) cs I29 q28.2.2 W) (fun _ => rfl) (tt_F [some (.ref 97), none, none, none] (And.intro rfl trivial) (tl_161_17   I29 q28.2.2 _ h)))) (fun h =>
  tt_I (L1 := (bk_161_2.drop 3)) (L2 := bk_161_3) 3 [some (.ref 97), some (.int q1), none, none] [] (cw (km κ) cs I J W) h (fun _ => rfl) (fun h =>
  tt_C (L1 := (bk_161_2.drop 6)) 3 [some (.ref 97), some (.int q1), none, none] [] (cw (km κ) cs I J W) h (fun _ => rfl) (fun _ e => m_160 (d := d + 3) e) fun q24 h =>
  tt_I (L1 := bk_161_17) (L2 := (bk_161_2.drop 7)) 1 [some (.ref 97), some (.int q1), none, none] [] (cw (km κ) cs q24.2.1 q24.2.2 W) h (fun _ => rfl) (fun h =>
  tt_F [some (.ref 97), none, none, none] (And.intro rfl trivial) (tl_161_17   q24.2.1 q24.2.2 _ h)) (fun h =>
  tt_C (L1 := (bk_161_2.drop 12)) 5 [some (.ref 97), some (.int q1), none, none] [.ref 97] (cw (km κ) cs q24.2.1 q24.2.2 W) h (fun _ => rfl) (fun _ e => m_148 (d := d + 3) e) fun q25 h =>
  let I26 := up q25.2.1 97 26 q25.1
  tt_J (L1 := bk_161_17) 1 [some (.ref 97), some (.int q1), none, none] [] (cw (km κ) cs I26 q25.2.2 W) (fun _ => rfl) (tt_F [some (.ref 97), none, none, none] (And.intro rfl trivial) (tl_161_17   I26 q25.2.2 _ h)))) (fun h =>
  tt_I (L1 := (bk_161_3.drop 3)) (L2 := bk_161_4) 3 [some (.ref 97), some (.int q1), none, none] [] (cw (km κ) cs I J W) h (fun _ => rfl) (fun h =>
  tt_C (L1 := (bk_161_3.drop 6)) 3 [some (.ref 97), some (.int q1), none, none] [] (cw (km κ) cs I J W) h (fun _ => rfl) (fun _ e => m_160 (d := d + 3) e) fun q21 h =>
  tt_I (L1 := bk_161_17) (L2 := (bk_161_3.drop 7)) 1 [some (.ref 97), some (.int q1), none, none] [] (cw (km κ) cs q21.2.1 q21.2.2 W) h (fun _ => rfl) (fun h =>
  tt_F [some (.ref 97), none, none, none] (And.intro rfl trivial) (tl_161_17   q21.2.1 q21.2.2 _ h)) (fun h =>
  tt_C (L1 := (bk_161_3.drop 12)) 5 [some (.ref 97), some (.int q1), none, none] [.ref 97] (cw (km κ) cs q21.2.1 q21.2.2 W) h (fun _ => rfl) (fun _ e => m_148 (d := d + 3) e) fun q22 h =>
  let I23 := up q22.2.1 97 27 q22.1
  tt_J (L1 := bk_161_17) 1 [some (.ref 97), some (.int q1), none, none] [] (cw (km κ) cs I23 q22.2.2 W) (fun _ => rfl) (tt_F [some (.ref 97), none, none, none] (And.intro rfl trivial) (tl_161_17   I23 q22.2.2 _ h)))) (fun h =>
  tt_I (L1 := (bk_161_4.drop 2)) (L2 := bk_161_16) 2 [some (.ref 97), some (.int q1), none, none] [] (cw (km κ) cs I J W) h (fun _ => rfl) (fun h =>
  tt_I (L1 := (bk_161_4.drop 6)) (L2 := bk_161_5) 4 [some (.ref 97), some (.int q1), none, none] [] (cw (km κ) cs I J W) h (fun _ => rfl) (fun h =>
  tt_C (L1 := bk_161_5) 3 [some (.ref 97), some (.int q1), none, none] [] (cw (km κ) cs I J W) h (fun _ => rfl) (fun _ e => m_144 (d := d + 5) e) fun q20 h =>
  tt_F [some (.ref 97), none, none, none] (And.intro rfl trivial) (tl_161_5   q20 J _ h)) (fun h =>
  tt_F [some (.ref 97), none, none, none] (And.intro rfl trivial) (tl_161_5   I J _ h))) (fun h =>
  tt_C (L1 := bk_161_17) 3 [some (.ref 97), some (.int q1), none, none] [] (cw (km κ) cs I J W) h (fun _ => rfl) (fun _ e => m_144 (d := d + 5) e) fun q2 h =>
  tt_F [some (.ref 97), none, none, none] (And.intro rfl trivial) (tl_161_17   q2 J _ h)))))))
/- 134 -/
def bd_134_1 (c1 : Int32 → (Nat → Nat → Int32) → Option (Nat → Nat → Int32)) (x3 : Int32) (I : (Nat → Nat → Int32)) : Option (Nat → Nat → Int32) :=
  (if x3 < (nI 8) then (if ex_in x3 8 then (if ex_in x3 8 then let I1 := up I 98 (x3).toNatClampNeg (I 104 (x3).toNatClampNeg)
  (c1 (x3 + (1 : Int32)) I1) else none) else none) else (some I))
def lb_134_1 : Int32 → (Nat → Nat → Int32) → Option (Nat → Nat → Int32) := fx (fun _ _ => none) (bd_134_1 ) FU
def f_134 (I : (Nat → Nat → Int32)) : Option (Nat → Nat → Int32) :=
  (lb_134_1  (0 : Int32) I)
theorem tb_134_1 {d : Nat} {κ : KT} {cs : Nat × Nat} {J : Nat → Nat → Int64} {W : Nat} (c1 : Int32 → (Nat → Nat → Int32) → Option (Nat → Nat → Int32)) (k1 : ∀ (x3 : Int32) (I : (Nat → Nat → Int32)) (r : (Nat → Nat → Int32)), c1 x3 I = some r → tt d me_134 bk_134_1 [none, some (.ref 104), some (.ref 98), some (.int x3)] [] (cw (km κ) cs I J W) (.inl none) (cw (km κ) cs r J W)) (x3 : Int32) (I : (Nat → Nat → Int32)) (r : (Nat → Nat → Int32)) (h : bd_134_1  c1 x3 I = some r) : tt d me_134 bk_134_1 [none, some (.ref 104), some (.ref 98), some (.int x3)] [] (cw (km κ) cs I J W) (.inl none) (cw (km κ) cs r J W) :=
  tt_I (L1 := (bk_134_1.drop 4)) (L2 := bk_134_2) 4 [none, some (.ref 104), some (.ref 98), some (.int x3)] [] (cw (km κ) cs I J W) h (fun _ => rfl) (fun h =>
  tt_J (L1 := (bk_134_1.drop 8)) 3 [none, some (.ref 104), some (.ref 98), some (.int x3)] [.int x3, .ref 104, .int x3, .ref 98] (cw (km κ) cs I J W) (fun _ => rfl) (
  tt_Qi rfl h fun h =>
  let I1 := up I 98 (x3).toNatClampNeg (I 104 (x3).toNatClampNeg)
  tt_Wi rfl (Nat.le_of_ble_eq_true rfl) h fun h =>
  tt_J (L1 := bk_134_1) 1 [none, some (.ref 104), some (.ref 98), some (.int (x3 + (1 : Int32)))] [] (cw (km κ) cs I1 J W) (fun _ => rfl) (tt_F [none, some (.ref 104), some (.ref 98), some (.int (x3 + (1 : Int32)))] (And.intro rfl (And.intro rfl (And.intro rfl trivial))) (k1 (x3 + (1 : Int32)) I1 _ h)))) (fun h =>
  tt_R 1 (fun r => (.inl none)) (fun r => (cw (km κ) cs r J W)) h (fun _ => rfl))
theorem tn_134_1 {d : Nat} {κ : KT} {cs : Nat × Nat} {J : Nat → Nat → Int64} {W : Nat} : ∀ (n : Nat) (x3 : Int32) (I : (Nat → Nat → Int32)) (r : (Nat → Nat → Int32)), fx (fun _ _ => none) (bd_134_1 ) n x3 I = some r → tt d me_134 bk_134_1 [none, some (.ref 104), some (.ref 98), some (.int x3)] [] (cw (km κ) cs I J W) (.inl none) (cw (km κ) cs r J W)
  | 0 => fun _ _ _ h => nomatch h
  | n + 1 => fun x3 I r h => tb_134_1  (fx _ (bd_134_1 ) n) (tn_134_1  n) x3 I r h
theorem tl_134_1 {d : Nat} {κ : KT} {cs : Nat × Nat} {J : Nat → Nat → Int64} {W : Nat} (x3 : Int32) (I : (Nat → Nat → Int32)) (r : (Nat → Nat → Int32)) (h : lb_134_1  x3 I = some r) : tt d me_134 bk_134_1 [none, some (.ref 104), some (.ref 98), some (.int x3)] [] (cw (km κ) cs I J W) (.inl none) (cw (km κ) cs r J W) := tn_134_1  FU x3 I r h
theorem m_134 {d : Nat} {κ : KT} {cs : Nat × Nat} {J : Nat → Nat → Int64} {W : Nat} {I : (Nat → Nat → Int32)} {r : (Nat → Nat → Int32)} (h : f_134  I = some r) : tm d 134 [.ref 97, .ref 104, .ref 98] (cw (km κ) cs I J W) (.inl none) (cw (km κ) cs r J W) :=
  tm_of me_134 rfl (Nat.le_of_ble_eq_true rfl) (
  tt_J (L1 := bk_134_1) 1 [some (.ref 97), some (.ref 104), some (.ref 98), some (.int (0 : Int32))] [] (cw (km κ) cs I J W) (fun _ => rfl) (tt_F [none, some (.ref 104), some (.ref 98), some (.int (0 : Int32))] (And.intro rfl (And.intro rfl (And.intro rfl trivial))) (tl_134_1  (0 : Int32) I _ h)))
/- 134 -/
def bd_134_97_105_99_1 (c1 : Int32 → (Nat → Nat → Int32) → Option (Nat → Nat → Int32)) (x3 : Int32) (I : (Nat → Nat → Int32)) : Option (Nat → Nat → Int32) :=
  (if x3 < (nI 8) then (if ex_in x3 8 then (if ex_in x3 8 then let I1 := up I 99 (x3).toNatClampNeg (I 105 (x3).toNatClampNeg)
  (c1 (x3 + (1 : Int32)) I1) else none) else none) else (some I))
def lb_134_97_105_99_1 : Int32 → (Nat → Nat → Int32) → Option (Nat → Nat → Int32) := fx (fun _ _ => none) (bd_134_97_105_99_1 ) FU
def f_134_97_105_99 (I : (Nat → Nat → Int32)) : Option (Nat → Nat → Int32) :=
  (lb_134_97_105_99_1  (0 : Int32) I)
theorem tb_134_97_105_99_1 {d : Nat} {κ : KT} {cs : Nat × Nat} {J : Nat → Nat → Int64} {W : Nat} (c1 : Int32 → (Nat → Nat → Int32) → Option (Nat → Nat → Int32)) (k1 : ∀ (x3 : Int32) (I : (Nat → Nat → Int32)) (r : (Nat → Nat → Int32)), c1 x3 I = some r → tt d me_134 bk_134_1 [none, some (.ref 105), some (.ref 99), some (.int x3)] [] (cw (km κ) cs I J W) (.inl none) (cw (km κ) cs r J W)) (x3 : Int32) (I : (Nat → Nat → Int32)) (r : (Nat → Nat → Int32)) (h : bd_134_97_105_99_1  c1 x3 I = some r) : tt d me_134 bk_134_1 [none, some (.ref 105), some (.ref 99), some (.int x3)] [] (cw (km κ) cs I J W) (.inl none) (cw (km κ) cs r J W) :=
  tt_I (L1 := (bk_134_1.drop 4)) (L2 := bk_134_2) 4 [none, some (.ref 105), some (.ref 99), some (.int x3)] [] (cw (km κ) cs I J W) h (fun _ => rfl) (fun h =>
  tt_J (L1 := (bk_134_1.drop 8)) 3 [none, some (.ref 105), some (.ref 99), some (.int x3)] [.int x3, .ref 105, .int x3, .ref 99] (cw (km κ) cs I J W) (fun _ => rfl) (
  tt_Qi rfl h fun h =>
  let I1 := up I 99 (x3).toNatClampNeg (I 105 (x3).toNatClampNeg)
  tt_Wi rfl (Nat.le_of_ble_eq_true rfl) h fun h =>
  tt_J (L1 := bk_134_1) 1 [none, some (.ref 105), some (.ref 99), some (.int (x3 + (1 : Int32)))] [] (cw (km κ) cs I1 J W) (fun _ => rfl) (tt_F [none, some (.ref 105), some (.ref 99), some (.int (x3 + (1 : Int32)))] (And.intro rfl (And.intro rfl (And.intro rfl trivial))) (k1 (x3 + (1 : Int32)) I1 _ h)))) (fun h =>
  tt_R 1 (fun r => (.inl none)) (fun r => (cw (km κ) cs r J W)) h (fun _ => rfl))
theorem tn_134_97_105_99_1 {d : Nat} {κ : KT} {cs : Nat × Nat} {J : Nat → Nat → Int64} {W : Nat} : ∀ (n : Nat) (x3 : Int32) (I : (Nat → Nat → Int32)) (r : (Nat → Nat → Int32)), fx (fun _ _ => none) (bd_134_97_105_99_1 ) n x3 I = some r → tt d me_134 bk_134_1 [none, some (.ref 105), some (.ref 99), some (.int x3)] [] (cw (km κ) cs I J W) (.inl none) (cw (km κ) cs r J W)
  | 0 => fun _ _ _ h => nomatch h
  | n + 1 => fun x3 I r h => tb_134_97_105_99_1  (fx _ (bd_134_97_105_99_1 ) n) (tn_134_97_105_99_1  n) x3 I r h
theorem tl_134_97_105_99_1 {d : Nat} {κ : KT} {cs : Nat × Nat} {J : Nat → Nat → Int64} {W : Nat} (x3 : Int32) (I : (Nat → Nat → Int32)) (r : (Nat → Nat → Int32)) (h : lb_134_97_105_99_1  x3 I = some r) : tt d me_134 bk_134_1 [none, some (.ref 105), some (.ref 99), some (.int x3)] [] (cw (km κ) cs I J W) (.inl none) (cw (km κ) cs r J W) := tn_134_97_105_99_1  FU x3 I r h
theorem m_134_97_105_99 {d : Nat} {κ : KT} {cs : Nat × Nat} {J : Nat → Nat → Int64} {W : Nat} {I : (Nat → Nat → Int32)} {r : (Nat → Nat → Int32)} (h : f_134_97_105_99  I = some r) : tm d 134 [.ref 97, .ref 105, .ref 99] (cw (km κ) cs I J W) (.inl none) (cw (km κ) cs r J W) :=
  tm_of me_134 rfl (Nat.le_of_ble_eq_true rfl) (
  tt_J (L1 := bk_134_1) 1 [some (.ref 97), some (.ref 105), some (.ref 99), some (.int (0 : Int32))] [] (cw (km κ) cs I J W) (fun _ => rfl) (tt_F [none, some (.ref 105), some (.ref 99), some (.int (0 : Int32))] (And.intro rfl (And.intro rfl (And.intro rfl trivial))) (tl_134_97_105_99_1  (0 : Int32) I _ h)))
/- 134 -/
def bd_134_97_106_100_1 (c1 : Int32 → (Nat → Nat → Int32) → Option (Nat → Nat → Int32)) (x3 : Int32) (I : (Nat → Nat → Int32)) : Option (Nat → Nat → Int32) :=
  (if x3 < (nI 8) then (if ex_in x3 8 then (if ex_in x3 8 then let I1 := up I 100 (x3).toNatClampNeg (I 106 (x3).toNatClampNeg)
  (c1 (x3 + (1 : Int32)) I1) else none) else none) else (some I))
def lb_134_97_106_100_1 : Int32 → (Nat → Nat → Int32) → Option (Nat → Nat → Int32) := fx (fun _ _ => none) (bd_134_97_106_100_1 ) FU
def f_134_97_106_100 (I : (Nat → Nat → Int32)) : Option (Nat → Nat → Int32) :=
  (lb_134_97_106_100_1  (0 : Int32) I)
theorem tb_134_97_106_100_1 {d : Nat} {κ : KT} {cs : Nat × Nat} {J : Nat → Nat → Int64} {W : Nat} (c1 : Int32 → (Nat → Nat → Int32) → Option (Nat → Nat → Int32)) (k1 : ∀ (x3 : Int32) (I : (Nat → Nat → Int32)) (r : (Nat → Nat → Int32)), c1 x3 I = some r → tt d me_134 bk_134_1 [none, some (.ref 106), some (.ref 100), some (.int x3)] [] (cw (km κ) cs I J W) (.inl none) (cw (km κ) cs r J W)) (x3 : Int32) (I : (Nat → Nat → Int32)) (r : (Nat → Nat → Int32)) (h : bd_134_97_106_100_1  c1 x3 I = some r) : tt d me_134 bk_134_1 [none, some (.ref 106), some (.ref 100), some (.int x3)] [] (cw (km κ) cs I J W) (.inl none) (cw (km κ) cs r J W) :=
  tt_I (L1 := (bk_134_1.drop 4)) (L2 := bk_134_2) 4 [none, some (.ref 106), some (.ref 100), some (.int x3)] [] (cw (km κ) cs I J W) h (fun _ => rfl) (fun h =>
  tt_J (L1 := (bk_134_1.drop 8)) 3 [none, some (.ref 106), some (.ref 100), some (.int x3)] [.int x3, .ref 106, .int x3, .ref 100] (cw (km κ) cs I J W) (fun _ => rfl) (
  tt_Qi rfl h fun h =>
  let I1 := up I 100 (x3).toNatClampNeg (I 106 (x3).toNatClampNeg)
  tt_Wi rfl (Nat.le_of_ble_eq_true rfl) h fun h =>
  tt_J (L1 := bk_134_1) 1 [none, some (.ref 106), some (.ref 100), some (.int (x3 + (1 : Int32)))] [] (cw (km κ) cs I1 J W) (fun _ => rfl) (tt_F [none, some (.ref 106), some (.ref 100), some (.int (x3 + (1 : Int32)))] (And.intro rfl (And.intro rfl (And.intro rfl trivial))) (k1 (x3 + (1 : Int32)) I1 _ h)))) (fun h =>
  tt_R 1 (fun r => (.inl none)) (fun r => (cw (km κ) cs r J W)) h (fun _ => rfl))
theorem tn_134_97_106_100_1 {d : Nat} {κ : KT} {cs : Nat × Nat} {J : Nat → Nat → Int64} {W : Nat} : ∀ (n : Nat) (x3 : Int32) (I : (Nat → Nat → Int32)) (r : (Nat → Nat → Int32)), fx (fun _ _ => none) (bd_134_97_106_100_1 ) n x3 I = some r → tt d me_134 bk_134_1 [none, some (.ref 106), some (.ref 100), some (.int x3)] [] (cw (km κ) cs I J W) (.inl none) (cw (km κ) cs r J W)
  | 0 => fun _ _ _ h => nomatch h
  | n + 1 => fun x3 I r h => tb_134_97_106_100_1  (fx _ (bd_134_97_106_100_1 ) n) (tn_134_97_106_100_1  n) x3 I r h
theorem tl_134_97_106_100_1 {d : Nat} {κ : KT} {cs : Nat × Nat} {J : Nat → Nat → Int64} {W : Nat} (x3 : Int32) (I : (Nat → Nat → Int32)) (r : (Nat → Nat → Int32)) (h : lb_134_97_106_100_1  x3 I = some r) : tt d me_134 bk_134_1 [none, some (.ref 106), some (.ref 100), some (.int x3)] [] (cw (km κ) cs I J W) (.inl none) (cw (km κ) cs r J W) := tn_134_97_106_100_1  FU x3 I r h
theorem m_134_97_106_100 {d : Nat} {κ : KT} {cs : Nat × Nat} {J : Nat → Nat → Int64} {W : Nat} {I : (Nat → Nat → Int32)} {r : (Nat → Nat → Int32)} (h : f_134_97_106_100  I = some r) : tm d 134 [.ref 97, .ref 106, .ref 100] (cw (km κ) cs I J W) (.inl none) (cw (km κ) cs r J W) :=
  tm_of me_134 rfl (Nat.le_of_ble_eq_true rfl) (
  tt_J (L1 := bk_134_1) 1 [some (.ref 97), some (.ref 106), some (.ref 100), some (.int (0 : Int32))] [] (cw (km κ) cs I J W) (fun _ => rfl) (tt_F [none, some (.ref 106), some (.ref 100), some (.int (0 : Int32))] (And.intro rfl (And.intro rfl (And.intro rfl trivial))) (tl_134_97_106_100_1  (0 : Int32) I _ h)))
/- 134 -/
def bd_134_97_107_101_1 (c1 : Int32 → (Nat → Nat → Int32) → Option (Nat → Nat → Int32)) (x3 : Int32) (I : (Nat → Nat → Int32)) : Option (Nat → Nat → Int32) :=
  (if x3 < (nI 1300) then (if ex_in x3 1300 then (if ex_in x3 1300 then let I1 := up I 101 (x3).toNatClampNeg (I 107 (x3).toNatClampNeg)
  (c1 (x3 + (1 : Int32)) I1) else none) else none) else (some I))
def lb_134_97_107_101_1 : Int32 → (Nat → Nat → Int32) → Option (Nat → Nat → Int32) := fx (fun _ _ => none) (bd_134_97_107_101_1 ) FU
def f_134_97_107_101 (I : (Nat → Nat → Int32)) : Option (Nat → Nat → Int32) :=
  (lb_134_97_107_101_1  (0 : Int32) I)
theorem tb_134_97_107_101_1 {d : Nat} {κ : KT} {cs : Nat × Nat} {J : Nat → Nat → Int64} {W : Nat} (c1 : Int32 → (Nat → Nat → Int32) → Option (Nat → Nat → Int32)) (k1 : ∀ (x3 : Int32) (I : (Nat → Nat → Int32)) (r : (Nat → Nat → Int32)), c1 x3 I = some r → tt d me_134 bk_134_1 [none, some (.ref 107), some (.ref 101), some (.int x3)] [] (cw (km κ) cs I J W) (.inl none) (cw (km κ) cs r J W)) (x3 : Int32) (I : (Nat → Nat → Int32)) (r : (Nat → Nat → Int32)) (h : bd_134_97_107_101_1  c1 x3 I = some r) : tt d me_134 bk_134_1 [none, some (.ref 107), some (.ref 101), some (.int x3)] [] (cw (km κ) cs I J W) (.inl none) (cw (km κ) cs r J W) :=
  tt_I (L1 := (bk_134_1.drop 4)) (L2 := bk_134_2) 4 [none, some (.ref 107), some (.ref 101), some (.int x3)] [] (cw (km κ) cs I J W) h (fun _ => rfl) (fun h =>
  tt_J (L1 := (bk_134_1.drop 8)) 3 [none, some (.ref 107), some (.ref 101), some (.int x3)] [.int x3, .ref 107, .int x3, .ref 101] (cw (km κ) cs I J W) (fun _ => rfl) (
  tt_Qi rfl h fun h =>
  let I1 := up I 101 (x3).toNatClampNeg (I 107 (x3).toNatClampNeg)
  tt_Wi rfl (Nat.le_of_ble_eq_true rfl) h fun h =>
  tt_J (L1 := bk_134_1) 1 [none, some (.ref 107), some (.ref 101), some (.int (x3 + (1 : Int32)))] [] (cw (km κ) cs I1 J W) (fun _ => rfl) (tt_F [none, some (.ref 107), some (.ref 101), some (.int (x3 + (1 : Int32)))] (And.intro rfl (And.intro rfl (And.intro rfl trivial))) (k1 (x3 + (1 : Int32)) I1 _ h)))) (fun h =>
  tt_R 1 (fun r => (.inl none)) (fun r => (cw (km κ) cs r J W)) h (fun _ => rfl))
theorem tn_134_97_107_101_1 {d : Nat} {κ : KT} {cs : Nat × Nat} {J : Nat → Nat → Int64} {W : Nat} : ∀ (n : Nat) (x3 : Int32) (I : (Nat → Nat → Int32)) (r : (Nat → Nat → Int32)), fx (fun _ _ => none) (bd_134_97_107_101_1 ) n x3 I = some r → tt d me_134 bk_134_1 [none, some (.ref 107), some (.ref 101), some (.int x3)] [] (cw (km κ) cs I J W) (.inl none) (cw (km κ) cs r J W)
  | 0 => fun _ _ _ h => nomatch h
  | n + 1 => fun x3 I r h => tb_134_97_107_101_1  (fx _ (bd_134_97_107_101_1 ) n) (tn_134_97_107_101_1  n) x3 I r h
theorem tl_134_97_107_101_1 {d : Nat} {κ : KT} {cs : Nat × Nat} {J : Nat → Nat → Int64} {W : Nat} (x3 : Int32) (I : (Nat → Nat → Int32)) (r : (Nat → Nat → Int32)) (h : lb_134_97_107_101_1  x3 I = some r) : tt d me_134 bk_134_1 [none, some (.ref 107), some (.ref 101), some (.int x3)] [] (cw (km κ) cs I J W) (.inl none) (cw (km κ) cs r J W) := tn_134_97_107_101_1  FU x3 I r h
theorem m_134_97_107_101 {d : Nat} {κ : KT} {cs : Nat × Nat} {J : Nat → Nat → Int64} {W : Nat} {I : (Nat → Nat → Int32)} {r : (Nat → Nat → Int32)} (h : f_134_97_107_101  I = some r) : tm d 134 [.ref 97, .ref 107, .ref 101] (cw (km κ) cs I J W) (.inl none) (cw (km κ) cs r J W) :=
  tm_of me_134 rfl (Nat.le_of_ble_eq_true rfl) (
  tt_J (L1 := bk_134_1) 1 [some (.ref 97), some (.ref 107), some (.ref 101), some (.int (0 : Int32))] [] (cw (km κ) cs I J W) (fun _ => rfl) (tt_F [none, some (.ref 107), some (.ref 101), some (.int (0 : Int32))] (And.intro rfl (And.intro rfl (And.intro rfl trivial))) (tl_134_97_107_101_1  (0 : Int32) I _ h)))
/- 163 -/
def bd_163_1 (c1 : Int32 → (Nat → Nat → Int32) → Option (Nat → Nat → Int32)) (x1 : Int32) (I : (Nat → Nat → Int32)) : Option (Nat → Nat → Int32) :=
  (if x1 < (60 : Int32) then (if ex_in x1 60 then let I2 := up I 122 (x1).toNatClampNeg x1
  (if ex_in x1 60 then let I3 := up I2 123 (x1).toNatClampNeg x1
  (if ex_in x1 60 then let I4 := up I3 124 (x1).toNatClampNeg (0 : Int32)
  (c1 (x1 + (1 : Int32)) I4) else none) else none) else none) else (let I1 := up I 97 52 (0 : Int32)
  (some I1)))
def lb_163_1 : Int32 → (Nat → Nat → Int32) → Option (Nat → Nat → Int32) := fx (fun _ _ => none) (bd_163_1 ) FU
def f_163 (I : (Nat → Nat → Int32)) : Option (Nat → Nat → Int32) :=
  (lb_163_1  (0 : Int32) I)
theorem tb_163_1 {d : Nat} {κ : KT} {cs : Nat × Nat} {J : Nat → Nat → Int64} {W : Nat} (c1 : Int32 → (Nat → Nat → Int32) → Option (Nat → Nat → Int32)) (k1 : ∀ (x1 : Int32) (I : (Nat → Nat → Int32)) (r : (Nat → Nat → Int32)), c1 x1 I = some r → tt d me_163 bk_163_1 [some (.ref 97), some (.int x1)] [] (cw (km κ) cs I J W) (.inl none) (cw (km κ) cs r J W)) (x1 : Int32) (I : (Nat → Nat → Int32)) (r : (Nat → Nat → Int32)) (h : bd_163_1  c1 x1 I = some r) : tt d me_163 bk_163_1 [some (.ref 97), some (.int x1)] [] (cw (km κ) cs I J W) (.inl none) (cw (km κ) cs r J W) :=
  tt_I (L1 := (bk_163_1.drop 3)) (L2 := bk_163_2) 3 [some (.ref 97), some (.int x1)] [] (cw (km κ) cs I J W) h (fun _ => rfl) (fun h =>
  let I2 := up I 122 (x1).toNatClampNeg x1
  tt_J (L1 := (bk_163_1.drop 7)) 3 [some (.ref 97), some (.int x1)] [.int x1, .int x1, .ref 122] (cw (km κ) cs I J W) (fun _ => rfl) (
  tt_Wi rfl (Nat.le_of_ble_eq_true rfl) h fun h =>
  let I3 := up I2 123 (x1).toNatClampNeg x1
  tt_J (L1 := (bk_163_1.drop 12)) 3 [some (.ref 97), some (.int x1)] [.int x1, .int x1, .ref 123] (cw (km κ) cs I2 J W) (fun _ => rfl) (
  tt_Wi rfl (Nat.le_of_ble_eq_true rfl) h fun h =>
  let I4 := up I3 124 (x1).toNatClampNeg (0 : Int32)
  tt_J (L1 := (bk_163_1.drop 17)) 3 [some (.ref 97), some (.int x1)] [.int (0 : Int32), .int x1, .ref 124] (cw (km κ) cs I3 J W) (fun _ => rfl) (
  tt_Wi rfl (Nat.le_of_ble_eq_true rfl) h fun h =>
  tt_J (L1 := bk_163_1) 1 [some (.ref 97), some (.int (x1 + (1 : Int32)))] [] (cw (km κ) cs I4 J W) (fun _ => rfl) (tt_F [some (.ref 97), some (.int (x1 + (1 : Int32)))] (And.intro rfl (And.intro rfl trivial)) (k1 (x1 + (1 : Int32)) I4 _ h)))))) (fun h =>
  let I1 := up I 97 52 (0 : Int32)
  tt_R 4 (fun r => (.inl none)) (fun r => (cw (km κ) cs r J W)) h (fun _ => rfl))
theorem tn_163_1 {d : Nat} {κ : KT} {cs : Nat × Nat} {J : Nat → Nat → Int64} {W : Nat} : ∀ (n : Nat) (x1 : Int32) (I : (Nat → Nat → Int32)) (r : (Nat → Nat → Int32)), fx (fun _ _ => none) (bd_163_1 ) n x1 I = some r → tt d me_163 bk_163_1 [some (.ref 97), some (.int x1)] [] (cw (km κ) cs I J W) (.inl none) (cw (km κ) cs r J W)
  | 0 => fun _ _ _ h => nomatch h
  | n + 1 => fun x1 I r h => tb_163_1  (fx _ (bd_163_1 ) n) (tn_163_1  n) x1 I r h
theorem tl_163_1 {d : Nat} {κ : KT} {cs : Nat × Nat} {J : Nat → Nat → Int64} {W : Nat} (x1 : Int32) (I : (Nat → Nat → Int32)) (r : (Nat → Nat → Int32)) (h : lb_163_1  x1 I = some r) : tt d me_163 bk_163_1 [some (.ref 97), some (.int x1)] [] (cw (km κ) cs I J W) (.inl none) (cw (km κ) cs r J W) := tn_163_1  FU x1 I r h
theorem m_163 {d : Nat} {κ : KT} {cs : Nat × Nat} {J : Nat → Nat → Int64} {W : Nat} {I : (Nat → Nat → Int32)} {r : (Nat → Nat → Int32)} (h : f_163  I = some r) : tm d 163 [.ref 97] (cw (km κ) cs I J W) (.inl none) (cw (km κ) cs r J W) :=
  tm_of me_163 rfl (Nat.le_of_ble_eq_true rfl) (
  tt_J (L1 := bk_163_1) 1 [some (.ref 97), some (.int (0 : Int32))] [] (cw (km κ) cs I J W) (fun _ => rfl) (tt_F [some (.ref 97), some (.int (0 : Int32))] (And.intro rfl (And.intro rfl trivial)) (tl_163_1  (0 : Int32) I _ h)))
