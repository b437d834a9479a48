/-! functions, by wip/whole/sy.py -/
/- 144 -/
def f_144 (x1 : Int32) (I : (Nat → Nat → Int32)) : Option (Nat → Nat → Int32) :=
  (if (I 97 12) = 0 then (let I1 := up I 97 12 x1
  (let I2 := up I1 97 13 (I1 97 18)
  (some I2))) else (some I))
theorem m_144 {d : Nat} {κ : KT} {cs : Nat × Nat} {J : Nat → Nat → Int64} {W : Nat} {x1 : Int32} {I : (Nat → Nat → Int32)} {r : (Nat → Nat → Int32)} (h : f_144 x1 I = some r) : tm d 144 [.ref 97, .int x1] (cw (km κ) cs I J W) (.inl none) (cw (km κ) cs r J W) :=
  tm_of me_144 rfl (Nat.le_of_ble_eq_true rfl) (
  tt_I (L1 := bk_144_1) (L2 := (bk_144_0.drop 3)) 3 [some (.ref 97), some (.int x1)] [] (cw (km κ) cs I J W) h (fun _ => rfl) (fun h =>
  let I1 := up I 97 12 x1
  let I2 := up I1 97 13 (I1 97 18)
  tt_J (L1 := (bk_144_1.drop 7)) 6 [some (.ref 97), some (.int x1)] [] (cw (km κ) cs I2 J W) (fun _ => rfl) (
  tt_R 1 (fun r => (.inl none)) (fun r => (cw (km κ) cs r J W)) h (fun _ => rfl))) (fun h =>
  tt_R 1 (fun r => (.inl none)) (fun r => (cw (km κ) cs r J W)) h (fun _ => rfl)))
/- 145 -/
def lb_145_2 (s0 : Int32) (I : (Nat → Nat → Int32)) : Option Int32 :=
  (if (s0 = 0 ∨ s0 = 1) then some s0 else none)
def f_145 (I : (Nat → Nat → Int32)) : Option Int32 :=
  (if (I 97 12) = 0 then (lb_145_2  (1 : Int32) I) else (lb_145_2  (0 : Int32) I))
theorem tl_145_2 {d : Nat} {κ : KT} {cs : Nat × Nat} {J : Nat → Nat → Int64} {W : Nat} (s0 : Int32) (I : (Nat → Nat → Int32)) (r : Int32) (h : lb_145_2  s0 I = some r) : tt d me_145 bk_145_2 [none] [.int s0] (cw (km κ) cs I J W) (.inl (some (.int r))) (cw (km κ) cs I J W) :=
  tt_B 1 (fun r => (.inl (some (.int r)))) (fun r => (cw (km κ) cs I J W)) h (fun q => Or.inr (Or.inl ⟨rfl, q⟩)) (fun _ => rfl)
theorem m_145 {d : Nat} {κ : KT} {cs : Nat × Nat} {J : Nat → Nat → Int64} {W : Nat} {I : (Nat → Nat → Int32)} {r : Int32} (h : f_145  I = some r) : tm d 145 [.ref 97] (cw (km κ) cs I J W) (.inl (some (.int r))) (cw (km κ) cs I J W) :=
  tm_of me_145 rfl (Nat.le_of_ble_eq_true rfl) (
  tt_I (L1 := (bk_145_0.drop 3)) (L2 := bk_145_1) 3 [some (.ref 97)] [] (cw (km κ) cs I J W) h (fun _ => rfl) (fun h =>
  tt_J (L1 := bk_145_2) 1 [some (.ref 97)] [.int (1 : Int32)] (cw (km κ) cs I J W) (fun _ => rfl) (tt_F [none] trivial (tl_145_2  (1 : Int32) I _ h))) (fun h =>
  tt_J (L1 := bk_145_2) 0 [some (.ref 97)] [.int (0 : Int32)] (cw (km κ) cs I J W) (fun _ => rfl) (tt_F [none] trivial (tl_145_2  (0 : Int32) I _ h))))
/- 146 -/
def lb_146_2 (s0 : Int32) (I : (Nat → Nat → Int32)) : Option Int32 :=
  (if (s0 = 0 ∨ s0 = 1) then some s0 else none)
def lb_146_1 (I : (Nat → Nat → Int32)) : Option Int32 :=
  (lb_146_2  (0 : Int32) I)
def f_146 (x1 : Int32) (I : (Nat → Nat → Int32)) : Option Int32 :=
  (if (I 97 17) = (3 : Int32) then (if (I 97 21) = x1 then (lb_146_2  (1 : Int32) I) else (lb_146_1   I)) else (lb_146_1   I))
theorem tl_146_2 {d : Nat} {κ : KT} {cs : Nat × Nat} {J : Nat → Nat → Int64} {W : Nat} (s0 : Int32) (I : (Nat → Nat → Int32)) (r : Int32) (h : lb_146_2  s0 I = some r) : tt d me_146 bk_146_2 [none, none] [.int s0] (cw (km κ) cs I J W) (.inl (some (.int r))) (cw (km κ) cs I J W) :=
  tt_B 1 (fun r => (.inl (some (.int r)))) (fun r => (cw (km κ) cs I J W)) h (fun q => Or.inr (Or.inl ⟨rfl, q⟩)) (fun _ => rfl)
theorem tl_146_1 {d : Nat} {κ : KT} {cs : Nat × Nat} {J : Nat → Nat → Int64} {W : Nat} (I : (Nat → Nat → Int32)) (r : Int32) (h : lb_146_1   I = some r) : tt d me_146 bk_146_1 [none, none] [] (cw (km κ) cs I J W) (.inl (some (.int r))) (cw (km κ) cs I J W) :=
  tt_J (L1 := bk_146_2) 0 [none, none] [.int (0 : Int32)] (cw (km κ) cs I J W) (fun _ => rfl) (tt_F [none, none] trivial (tl_146_2  (0 : Int32) I _ h))
theorem m_146 {d : Nat} {κ : KT} {cs : Nat × Nat} {J : Nat → Nat → Int64} {W : Nat} {x1 : Int32} {I : (Nat → Nat → Int32)} {r : Int32} (h : f_146 x1 I = some r) : tm d 146 [.ref 97, .int x1] (cw (km κ) cs I J W) (.inl (some (.int r))) (cw (km κ) cs I J W) :=
  tm_of me_146 rfl (Nat.le_of_ble_eq_true rfl) (
  tt_I (L1 := (bk_146_0.drop 4)) (L2 := bk_146_1) 4 [some (.ref 97), some (.int x1)] [] (cw (km κ) cs I J W) h (fun _ => rfl) (fun h =>
  tt_I (L1 := (bk_146_0.drop 8)) (L2 := bk_146_1) 4 [some (.ref 97), some (.int x1)] [] (cw (km κ) cs I J W) h (fun _ => rfl) (fun h =>
  tt_J (L1 := bk_146_2) 1 [some (.ref 97), some (.int x1)] [.int (1 : Int32)] (cw (km κ) cs I J W) (fun _ => rfl) (tt_F [none, none] trivial (tl_146_2  (1 : Int32) I _ h))) (fun h =>
  tt_F [none, none] trivial (tl_146_1   I _ h))) (fun h =>
  tt_F [none, none] trivial (tl_146_1   I _ h)))
/- 147 -/
def lb_147_3 (I : (Nat → Nat → Int32)) (J : (Nat → Nat → Int64)) : Option ((Nat → Nat → Int32) × (Nat → Nat → Int64)) :=
  (some (I, J))
def f_147 (x1 : Int32) (I : (Nat → Nat → Int32)) (J : (Nat → Nat → Int64)) : Option ((Nat → Nat → Int32) × (Nat → Nat → Int64)) :=
  ((f_145  I).bind fun q1 => (if q1 = 0 then (some (I, J)) else (if x1 = 0 then ((f_144 (1 : Int32) I).bind fun q2 => (lb_147_3   q2 J)) else ((f_140  I J).bind fun q3 => (lb_147_3   q3.1 q3.2)))))
theorem tl_147_3 {d : Nat} {κ : KT} {cs : Nat × Nat} {W : Nat} (I : (Nat → Nat → Int32)) (J : (Nat → Nat → Int64)) (r : ((Nat → Nat → Int32) × (Nat → Nat → Int64))) (h : lb_147_3   I J = some r) : tt (d + 2) me_147 bk_147_3 [none, none] [] (cw (km κ) cs I J W) (.inl none) (cw (km κ) cs r.1 r.2 W) :=
  tt_R 1 (fun r => (.inl none)) (fun r => (cw (km κ) cs r.1 r.2 W)) h (fun _ => rfl)
theorem m_147 {d : Nat} {κ : KT} {cs : Nat × Nat} {W : Nat} {x1 : Int32} {I : (Nat → Nat → Int32)} {J : (Nat → Nat → Int64)} {r : ((Nat → Nat → Int32) × (Nat → Nat → Int64))} (h : f_147 x1 I J = some r) : tm (d + 2) 147 [.ref 97, .int x1] (cw (km κ) cs I J W) (.inl none) (cw (km κ) cs r.1 r.2 W) :=
  tm_of me_147 rfl (Nat.le_of_ble_eq_true rfl) (
  tt_C (L1 := (bk_147_0.drop 2)) 2 [some (.ref 97), some (.int x1)] [] (cw (km κ) cs I J W) h (fun _ => rfl) (fun _ e => m_145 (d := d + 1) e) fun q1 h =>
  tt_I (L1 := (bk_147_0.drop 3)) (L2 := bk_147_1) 1 [some (.ref 97), some (.int x1)] [] (cw (km κ) cs I J W) h (fun _ => rfl) (fun h =>
  tt_R 1 (fun r => (.inl none)) (fun r => (cw (km κ) cs r.1 r.2 W)) h (fun _ => rfl)) (fun h =>
  tt_I (L1 := bk_147_2) (L2 := (bk_147_1.drop 2)) 2 [some (.ref 97), some (.int x1)] [] (cw (km κ) cs I J W) h (fun _ => rfl) (fun h =>
  tt_C (L1 := bk_147_3) 3 [some (.ref 97), some (.int x1)] [] (cw (km κ) cs I J W) h (fun _ => rfl) (fun _ e => m_144 (d := d + 1) e) fun q2 h =>
  tt_F [none, none] trivial (tl_147_3   q2 J _ h)) (fun h =>
  tt_C (L1 := (bk_147_1.drop 4)) 2 [some (.ref 97), some (.int x1)] [] (cw (km κ) cs I J W) h (fun _ => rfl) (fun _ e => m_140 (d := d) e) fun q3 h =>
  tt_J (L1 := bk_147_3) 0 [some (.ref 97), some (.int x1)] [] (cw (km κ) cs q3.1 q3.2 W) (fun _ => rfl) (tt_F [none, none] trivial (tl_147_3   q3.1 q3.2 _ h)))))
/- 148 -/
def lb_148_5 (x3 : Int32) (I : (Nat → Nat → Int32)) (J : (Nat → Nat → Int64)) : Option (Int32 × (Nat → Nat → Int32) × (Nat → Nat → Int64)) :=
  (some (x3, I, J))
def lb_148_4 (I : (Nat → Nat → Int32)) (J : (Nat → Nat → Int64)) : Option (Int32 × (Nat → Nat → Int32) × (Nat → Nat → Int64)) :=
  ((f_145  I).bind fun q3 => (if q3 = 0 then (lb_148_5  (I 97 20) I J) else ((f_140  I J).bind fun q4 => (lb_148_5  (I 97 20) q4.1 q4.2))))
def lb_148_3 (I : (Nat → Nat → Int32)) (J : (Nat → Nat → Int64)) : Option (Int32 × (Nat → Nat → Int32) × (Nat → Nat → Int64)) :=
  ((f_144 (2 : Int32) I).bind fun q2 => (lb_148_4   q2 J))
def f_148 (x1 : Int32) (x2 : Int32) (I : (Nat → Nat → Int32)) (J : (Nat → Nat → Int64)) : Option (Int32 × (Nat → Nat → Int32) × (Nat → Nat → Int64)) :=
  ((f_145  I).bind fun q1 => (if q1 = 0 then (some ((0 : Int32), I, J)) else (if (I 97 17) = (2 : Int32) then (if (4 : Int32) < (I 97 19) then (lb_148_3   I J) else (if (I 97 20) < x1 then (lb_148_3   I J) else (if x2 < (I 97 20) then (lb_148_3   I J) else (lb_148_4   I J)))) else ((f_144 (1 : Int32) I).bind fun q5 => (lb_148_4   q5 J)))))
theorem tl_148_5 {d : Nat} {κ : KT} {cs : Nat × Nat} {W : Nat} (x3 : Int32) (I : (Nat → Nat → Int32)) (J : (Nat → Nat → Int64)) (r : (Int32 × (Nat → Nat → Int32) × (Nat → Nat → Int64))) (h : lb_148_5  x3 I J = some r) : tt (d + 2) me_148 bk_148_5 [none, none, none, some (.int x3)] [] (cw (km κ) cs I J W) (.inl (some (.int r.1))) (cw (km κ) cs r.2.1 r.2.2 W) :=
  tt_R 2 (fun r => (.inl (some (.int r.1)))) (fun r => (cw (km κ) cs r.2.1 r.2.2 W)) h (fun _ => rfl)
theorem tl_148_4 {d : Nat} {κ : KT} {cs : Nat × Nat} {W : Nat} (I : (Nat → Nat → Int32)) (J : (Nat → Nat → Int64)) (r : (Int32 × (Nat → Nat → Int32) × (Nat → Nat → Int64))) (h : lb_148_4   I J = some r) : tt (d + 2) me_148 bk_148_4 [some (.ref 97), none, none, none] [] (cw (km κ) cs I J W) (.inl (some (.int r.1))) (cw (km κ) cs r.2.1 r.2.2 W) :=
  tt_C (L1 := (bk_148_4.drop 5)) 5 [some (.ref 97), none, none, some (.int (I 97 20))] [] (cw (km κ) cs I J W) h (fun _ => rfl) (fun _ e => m_145 (d := d + 1) e) fun q3 h =>
  tt_I (L1 := bk_148_5) (L2 := (bk_148_4.drop 6)) 1 [some (.ref 97), none, none, some (.int (I 97 20))] [] (cw (km κ) cs I J W) h (fun _ => rfl) (fun h =>
  tt_F [none, none, none, some (.int (I 97 20))] (And.intro rfl trivial) (tl_148_5  (I 97 20) I J _ h)) (fun h =>
  tt_C (L1 := bk_148_5) 2 [some (.ref 97), none, none, some (.int (I 97 20))] [] (cw (km κ) cs I J W) h (fun _ => rfl) (fun _ e => m_140 (d := d) e) fun q4 h =>
  tt_F [none, none, none, some (.int (I 97 20))] (And.intro rfl trivial) (tl_148_5  (I 97 20) q4.1 q4.2 _ h))
theorem tl_148_3 {d : Nat} {κ : KT} {cs : Nat × Nat} {W : Nat} (I : (Nat → Nat → Int32)) (J : (Nat → Nat → Int64)) (r : (Int32 × (Nat → Nat → Int32) × (Nat → Nat → Int64))) (h : lb_148_3   I J = some r) : tt (d + 2) me_148 bk_148_3 [some (.ref 97), none, none, none] [] (cw (km κ) cs I J W) (.inl (some (.int r.1))) (cw (km κ) cs r.2.1 r.2.2 W) :=
  tt_C (L1 := bk_148_4) 3 [some (.ref 97), none, none, none] [] (cw (km κ) cs I J W) h (fun _ => rfl) (fun _ e => m_144 (d := d + 1) e) fun q2 h =>
  tt_F [some (.ref 97), none, none, none] (And.intro rfl trivial) (tl_148_4   q2 J _ h)
theorem m_148 {d : Nat} {κ : KT} {cs : Nat × Nat} {W : Nat} {x1 : Int32} {x2 : Int32} {I : (Nat → Nat → Int32)} {J : (Nat → Nat → Int64)} {r : (Int32 × (Nat → Nat → Int32) × (Nat → Nat → Int64))} (h : f_148 x1 x2 I J = some r) : tm (d + 2) 148 [.ref 97, .int x1, .int x2] (cw (km κ) cs I J W) (.inl (some (.int r.1))) (cw (km κ) cs r.2.1 r.2.2 W) :=
  tm_of me_148 rfl (Nat.le_of_ble_eq_true rfl) (
  tt_C (L1 := (bk_148_0.drop 2)) 2 [some (.ref 97), some (.int x1), some (.int x2), none] [] (cw (km κ) cs I J W) h (fun _ => rfl) (fun _ e => m_145 (d := d + 1) e) fun q1 h =>
  tt_I (L1 := (bk_148_0.drop 3)) (L2 := bk_148_1) 1 [some (.ref 97), some (.int x1), some (.int x2), none] [] (cw (km κ) cs I J W) h (fun _ => rfl) (fun h =>
  tt_R 2 (fun r => (.inl (some (.int r.1)))) (fun r => (cw (km κ) cs r.2.1 r.2.2 W)) h (fun _ => rfl)) (fun h =>
  tt_I (L1 := bk_148_2) (L2 := (bk_148_1.drop 4)) 4 [some (.ref 97), some (.int x1), some (.int x2), none] [] (cw (km κ) cs I J W) h (fun _ => rfl) (fun h =>
  tt_I (L1 := bk_148_3) (L2 := (bk_148_2.drop 4)) 4 [some (.ref 97), some (.int x1), some (.int x2), none] [] (cw (km κ) cs I J W) h (fun _ => rfl) (fun h =>
  tt_F [some (.ref 97), none, none, none] (And.intro rfl trivial) (tl_148_3   I J _ h)) (fun h =>
  tt_I (L1 := bk_148_3) (L2 := (bk_148_2.drop 8)) 4 [some (.ref 97), some (.int x1), some (.int x2), none] [] (cw (km κ) cs I J W) h (fun _ => rfl) (fun h =>
  tt_F [some (.ref 97), none, none, none] (And.intro rfl trivial) (tl_148_3   I J _ h)) (fun h =>
  tt_I (L1 := bk_148_3) (L2 := bk_148_4) 4 [some (.ref 97), some (.int x1), some (.int x2), none] [] (cw (km κ) cs I J W) h (fun _ => rfl) (fun h =>
  tt_F [some (.ref 97), none, none, none] (And.intro rfl trivial) (tl_148_3   I J _ h)) (fun h =>
  tt_F [some (.ref 97), none, none, none] (And.intro rfl trivial) (tl_148_4   I J _ h))))) (fun h =>
  tt_C (L1 := (bk_148_1.drop 7)) 3 [some (.ref 97), some (.int x1), some (.int x2), none] [] (cw (km κ) cs I J W) h (fun _ => rfl) (fun _ e => m_144 (d := d + 1) e) fun q5 h =>
  tt_J (L1 := bk_148_4) 0 [some (.ref 97), some (.int x1), some (.int x2), none] [] (cw (km κ) cs q5 J W) (fun _ => rfl) (tt_F [some (.ref 97), none, none, none] (And.intro rfl trivial) (tl_148_4   q5 J _ h)))))
/- 149 -/
def f_149 (x1 : Int32) (I : (Nat → Nat → Int32)) : Option (Nat → Nat → Int32) :=
  (if ex_in (I 97 29) 1300 then let I1 := up I 107 ((I 97 29)).toNatClampNeg x1
  (let I2 := up I1 97 29 ((I1 97 29) + (1 : Int32))
  (some I2)) else none)
theorem m_149 {d : Nat} {κ : KT} {cs : Nat × Nat} {J : Nat → Nat → Int64} {W : Nat} {x1 : Int32} {I : (Nat → Nat → Int32)} {r : (Nat → Nat → Int32)} (h : f_149 x1 I = some r) : tm d 149 [.ref 97, .int x1] (cw (km κ) cs I J W) (.inl none) (cw (km κ) cs r J W) :=
  tm_of me_149 rfl (Nat.le_of_ble_eq_true rfl) (
  let I1 := up I 107 ((I 97 29)).toNatClampNeg x1
  tt_J (L1 := (bk_149_0.drop 5)) 4 [some (.ref 97), some (.int x1)] [.int x1, .int (I 97 29), .ref 107] (cw (km κ) cs I J W) (fun _ => rfl) (
  tt_Wi rfl (Nat.le_of_ble_eq_true rfl) h fun h =>
  let I2 := up I1 97 29 ((I1 97 29) + (1 : Int32))
  tt_R 7 (fun r => (.inl none)) (fun r => (cw (km κ) cs r J W)) h (fun _ => rfl)))
/- 150 -/
def lb_150_2 (s0 : Int32) : Option Int32 :=
  (if (s0 = 0 ∨ s0 = 1) then some s0 else none)
def f_150 (x0 : Int32) : Option Int32 :=
  (if x0 < (14 : Int32) then (lb_150_2  (0 : Int32) ) else (lb_150_2  (1 : Int32) ))
theorem tl_150_2 {d : Nat} {κ : KT} {cs : Nat × Nat} {I : Nat → Nat → Int32} {J : Nat → Nat → Int64} {W : Nat} (s0 : Int32) (r : Int32) (h : lb_150_2  s0  = some r) : tt d me_150 bk_150_2 [none] [.int s0] (cw (km κ) cs I J W) (.inl (some (.int r))) (cw (km κ) cs I J W) :=
  tt_B 1 (fun r => (.inl (some (.int r)))) (fun r => (cw (km κ) cs I J W)) h (fun q => Or.inr (Or.inl ⟨rfl, q⟩)) (fun _ => rfl)
theorem m_150 {d : Nat} {κ : KT} {cs : Nat × Nat} {I : Nat → Nat → Int32} {J : Nat → Nat → Int64} {W : Nat} {x0 : Int32} {r : Int32} (h : f_150 x0  = some r) : tm d 150 [.int x0] (cw (km κ) cs I J W) (.inl (some (.int r))) (cw (km κ) cs I J W) :=
  tm_of me_150 rfl (Nat.le_of_ble_eq_true rfl) (
  tt_I (L1 := bk_150_1) (L2 := (bk_150_0.drop 3)) 3 [some (.int x0)] [] (cw (km κ) cs I J W) h (fun _ => rfl) (fun h =>
  tt_J (L1 := bk_150_2) 0 [some (.int x0)] [.int (0 : Int32)] (cw (km κ) cs I J W) (fun _ => rfl) (tt_F [none] trivial (tl_150_2  (0 : Int32)  _ h))) (fun h =>
  tt_J (L1 := bk_150_2) 1 [some (.int x0)] [.int (1 : Int32)] (cw (km κ) cs I J W) (fun _ => rfl) (tt_F [none] trivial (tl_150_2  (1 : Int32)  _ h))))
/- 151 -/
def lb_151_8 (s0 : Int32) : Option Int32 :=
  (some s0)
def lb_151_4 : Option Int32 :=
  (lb_151_8  (4 : Int32) )
def lb_151_6 : Option Int32 :=
  (lb_151_8  (5 : Int32) )
def f_151 (x0 : Int32) : Option Int32 :=
  (if x0 = (5 : Int32) then (lb_151_8  (1 : Int32) ) else (if x0 = (4 : Int32) then (lb_151_8  (2 : Int32) ) else (if x0 = (3 : Int32) then (lb_151_8  (3 : Int32) ) else (if x0 = (6 : Int32) then (lb_151_4   ) else (if x0 = (7 : Int32) then (lb_151_4   ) else (if x0 = (8 : Int32) then (lb_151_6   ) else (if x0 = (9 : Int32) then (lb_151_6   ) else (lb_151_8  (6 : Int32) ))))))))
theorem tl_151_8 {d : Nat} {κ : KT} {cs : Nat × Nat} {I : Nat → Nat → Int32} {J : Nat → Nat → Int64} {W : Nat} (s0 : Int32) (r : Int32) (h : lb_151_8  s0  = some r) : tt d me_151 bk_151_8 [none] [.int s0] (cw (km κ) cs I J W) (.inl (some (.int r))) (cw (km κ) cs I J W) :=
  tt_R 1 (fun r => (.inl (some (.int r)))) (fun r => (cw (km κ) cs I J W)) h (fun _ => rfl)
theorem tl_151_4 {d : Nat} {κ : KT} {cs : Nat × Nat} {I : Nat → Nat → Int32} {J : Nat → Nat → Int64} {W : Nat} (r : Int32) (h : lb_151_4    = some r) : tt d me_151 bk_151_4 [none] [] (cw (km κ) cs I J W) (.inl (some (.int r))) (cw (km κ) cs I J W) :=
  tt_J (L1 := bk_151_8) 1 [none] [.int (4 : Int32)] (cw (km κ) cs I J W) (fun _ => rfl) (tt_F [none] trivial (tl_151_8  (4 : Int32)  _ h))
theorem tl_151_6 {d : Nat} {κ : KT} {cs : Nat × Nat} {I : Nat → Nat → Int32} {J : Nat → Nat → Int64} {W : Nat} (r : Int32) (h : lb_151_6    = some r) : tt d me_151 bk_151_6 [none] [] (cw (km κ) cs I J W) (.inl (some (.int r))) (cw (km κ) cs I J W) :=
  tt_J (L1 := bk_151_8) 1 [none] [.int (5 : Int32)] (cw (km κ) cs I J W) (fun _ => rfl) (tt_F [none] trivial (tl_151_8  (5 : Int32)  _ h))
theorem m_151 {d : Nat} {κ : KT} {cs : Nat × Nat} {I : Nat → Nat → Int32} {J : Nat → Nat → Int64} {W : Nat} {x0 : Int32} {r : Int32} (h : f_151 x0  = some r) : tm d 151 [.int x0] (cw (km κ) cs I J W) (.inl (some (.int r))) (cw (km κ) cs I J W) :=
  tm_of me_151 rfl (Nat.le_of_ble_eq_true rfl) (
  tt_I (L1 := (bk_151_0.drop 3)) (L2 := bk_151_1) 3 [some (.int x0)] [] (cw (km κ) cs I J W) h (fun _ => rfl) (fun h =>
  tt_J (L1 := bk_151_8) 1 [some (.int x0)] [.int (1 : Int32)] (cw (km κ) cs I J W) (fun _ => rfl) (tt_F [none] trivial (tl_151_8  (1 : Int32)  _ h))) (fun h =>
  tt_I (L1 := (bk_151_1.drop 3)) (L2 := bk_151_2) 3 [some (.int x0)] [] (cw (km κ) cs I J W) h (fun _ => rfl) (fun h =>
  tt_J (L1 := bk_151_8) 1 [some (.int x0)] [.int (2 : Int32)] (cw (km κ) cs I J W) (fun _ => rfl) (tt_F [none] trivial (tl_151_8  (2 : Int32)  _ h))) (fun h =>
  tt_I (L1 := (bk_151_2.drop 3)) (L2 := bk_151_3) 3 [some (.int x0)] [] (cw (km κ) cs I J W) h (fun _ => rfl) (fun h =>
  tt_J (L1 := bk_151_8) 1 [some (.int x0)] [.int (3 : Int32)] (cw (km κ) cs I J W) (fun _ => rfl) (tt_F [none] trivial (tl_151_8  (3 : Int32)  _ h))) (fun h =>
  tt_I (L1 := bk_151_4) (L2 := (bk_151_3.drop 3)) 3 [some (.int x0)] [] (cw (km κ) cs I J W) h (fun _ => rfl) (fun h =>
  tt_F [none] trivial (tl_151_4    _ h)) (fun h =>
  tt_I (L1 := bk_151_4) (L2 := bk_151_5) 3 [some (.int x0)] [] (cw (km κ) cs I J W) h (fun _ => rfl) (fun h =>
  tt_F [none] trivial (tl_151_4    _ h)) (fun h =>
  tt_I (L1 := bk_151_6) (L2 := (bk_151_5.drop 3)) 3 [some (.int x0)] [] (cw (km κ) cs I J W) h (fun _ => rfl) (fun h =>
  tt_F [none] trivial (tl_151_6    _ h)) (fun h =>
  tt_I (L1 := bk_151_6) (L2 := bk_151_7) 3 [some (.int x0)] [] (cw (km κ) cs I J W) h (fun _ => rfl) (fun h =>
  tt_F [none] trivial (tl_151_6    _ h)) (fun h =>
  tt_J (L1 := bk_151_8) 0 [some (.int x0)] [.int (6 : Int32)] (cw (km κ) cs I J W) (fun _ => rfl) (tt_F [none] trivial (tl_151_8  (6 : Int32)  _ h))))))))))
/- 152 -/
def lb_152_1 (I : (Nat → Nat → Int32)) : Option (Nat → Nat → Int32) :=
  (some I)
def bd_152_0 (c0 : Int32 → (Nat → Nat → Int32) → Option (Nat → Nat → Int32)) (x1 : Int32) (I : (Nat → Nat → Int32)) : Option (Nat → Nat → Int32) :=
  (if 0 < (I 97 30) then (if ex_in ((I 97 30) - (1 : Int32)) 650 then ((f_150 (I 108 (((I 97 30) - (1 : Int32))).toNatClampNeg) ).bind fun q1 => (if q1 = 0 then (if ex_in ((I 97 30) - (1 : Int32)) 650 then ((f_151 (I 108 (((I 97 30) - (1 : Int32))).toNatClampNeg) ).bind fun q2 => (if q2 < x1 then (lb_152_1   I) else (let I3 := up I 97 30 ((I 97 30) - (1 : Int32))
  (if ex_in (I3 97 30) 650 then ((f_149 (I3 108 ((I3 97 30)).toNatClampNeg) I3).bind fun q4 => (c0 x1 q4)) else none)))) else none) else (lb_152_1   I))) else none) else (lb_152_1   I))
def lb_152_0 : Int32 → (Nat → Nat → Int32) → Option (Nat → Nat → Int32) := fx (fun _ _ => none) (bd_152_0 ) FU
def f_152 (x1 : Int32) (I : (Nat → Nat → Int32)) : Option (Nat → Nat → Int32) :=
  (lb_152_0  x1 I)
theorem tl_152_1 {d : Nat} {κ : KT} {cs : Nat × Nat} {J : Nat → Nat → Int64} {W : Nat} (I : (Nat → Nat → Int32)) (r : (Nat → Nat → Int32)) (h : lb_152_1   I = some r) : tt (d + 1) me_152 bk_152_1 [none, none] [] (cw (km κ) cs I J W) (.inl none) (cw (km κ) cs r J W) :=
  tt_R 1 (fun r => (.inl none)) (fun r => (cw (km κ) cs r J W)) h (fun _ => rfl)
theorem tb_152_0 {d : Nat} {κ : KT} {cs : Nat × Nat} {J : Nat → Nat → Int64} {W : Nat} (c0 : Int32 → (Nat → Nat → Int32) → Option (Nat → Nat → Int32)) (k0 : ∀ (x1 : Int32) (I : (Nat → Nat → Int32)) (r : (Nat → Nat → Int32)), c0 x1 I = some r → tt (d + 1) me_152 bk_152_0 [some (.ref 97), some (.int x1)] [] (cw (km κ) cs I J W) (.inl none) (cw (km κ) cs r J W)) (x1 : Int32) (I : (Nat → Nat → Int32)) (r : (Nat → Nat → Int32)) (h : bd_152_0  c0 x1 I = some r) : tt (d + 1) me_152 bk_152_0 [some (.ref 97), some (.int x1)] [] (cw (km κ) cs I J W) (.inl none) (cw (km κ) cs r J W) :=
  tt_I (L1 := (bk_152_0.drop 3)) (L2 := bk_152_1) 3 [some (.ref 97), some (.int x1)] [] (cw (km κ) cs I J W) h (fun _ => rfl) (fun h =>
  tt_J (L1 := (bk_152_0.drop 9)) 5 [some (.ref 97), some (.int x1)] [.int ((I 97 30) - (1 : Int32)), .ref 108] (cw (km κ) cs I J W) (fun _ => rfl) (
  tt_Qi rfl h fun h =>
  tt_C (L1 := (bk_152_0.drop 11)) 1 [some (.ref 97), some (.int x1)] [] (cw (km κ) cs I J W) h (fun _ => rfl) (fun _ e => m_150 (d := d) e) fun q1 h =>
  tt_I (L1 := (bk_152_0.drop 12)) (L2 := bk_152_1) 1 [some (.ref 97), some (.int x1)] [] (cw (km κ) cs I J W) h (fun _ => rfl) (fun h =>
  tt_J (L1 := (bk_152_0.drop 18)) 5 [some (.ref 97), some (.int x1)] [.int ((I 97 30) - (1 : Int32)), .ref 108] (cw (km κ) cs I J W) (fun _ => rfl) (
  tt_Qi rfl h fun h =>
  tt_C (L1 := (bk_152_0.drop 20)) 1 [some (.ref 97), some (.int x1)] [] (cw (km κ) cs I J W) h (fun _ => rfl) (fun _ e => m_151 (d := d) e) fun q2 h =>
  tt_I (L1 := bk_152_1) (L2 := (bk_152_0.drop 22)) 2 [some (.ref 97), some (.int x1)] [] (cw (km κ) cs I J W) h (fun _ => rfl) (fun h =>
  tt_F [none, none] trivial (tl_152_1   I _ h)) (fun h =>
  let I3 := up I 97 30 ((I 97 30) - (1 : Int32))
  tt_J (L1 := (bk_152_0.drop 33)) 10 [some (.ref 97), some (.int x1)] [.int (I3 97 30), .ref 108, .ref 97] (cw (km κ) cs I3 J W) (fun _ => rfl) (
  tt_Qi rfl h fun h =>
  tt_C (L1 := (bk_152_0.drop 35)) 1 [some (.ref 97), some (.int x1)] [] (cw (km κ) cs I3 J W) h (fun _ => rfl) (fun _ e => m_149 (d := d) e) fun q4 h =>
  tt_J (L1 := bk_152_0) 0 [some (.ref 97), some (.int x1)] [] (cw (km κ) cs q4 J W) (fun _ => rfl) (tt_F [some (.ref 97), some (.int x1)] (And.intro rfl (And.intro rfl trivial)) (k0 x1 q4 _ h)))))) (fun h =>
  tt_F [none, none] trivial (tl_152_1   I _ h)))) (fun h =>
  tt_F [none, none] trivial (tl_152_1   I _ h))
theorem tn_152_0 {d : Nat} {κ : KT} {cs : Nat × Nat} {J : Nat → Nat → Int64} {W : Nat} : ∀ (n : Nat) (x1 : Int32) (I : (Nat → Nat → Int32)) (r : (Nat → Nat → Int32)), fx (fun _ _ => none) (bd_152_0 ) n x1 I = some r → tt (d + 1) me_152 bk_152_0 [some (.ref 97), some (.int x1)] [] (cw (km κ) cs I J W) (.inl none) (cw (km κ) cs r J W)
  | 0 => fun _ _ _ h => nomatch h
  | n + 1 => fun x1 I r h => tb_152_0  (fx _ (bd_152_0 ) n) (tn_152_0  n) x1 I r h
theorem tl_152_0 {d : Nat} {κ : KT} {cs : Nat × Nat} {J : Nat → Nat → Int64} {W : Nat} (x1 : Int32) (I : (Nat → Nat → Int32)) (r : (Nat → Nat → Int32)) (h : lb_152_0  x1 I = some r) : tt (d + 1) me_152 bk_152_0 [some (.ref 97), some (.int x1)] [] (cw (km κ) cs I J W) (.inl none) (cw (km κ) cs r J W) := tn_152_0  FU x1 I r h
theorem m_152 {d : Nat} {κ : KT} {cs : Nat × Nat} {J : Nat → Nat → Int64} {W : Nat} {x1 : Int32} {I : (Nat → Nat → Int32)} {r : (Nat → Nat → Int32)} (h : f_152 x1 I = some r) : tm (d + 1) 152 [.ref 97, .int x1] (cw (km κ) cs I J W) (.inl none) (cw (km κ) cs r J W) :=
  tm_of me_152 rfl (Nat.le_of_ble_eq_true rfl) (
  tt_F [some (.ref 97), some (.int x1)] (And.intro rfl (And.intro rfl trivial)) (tl_152_0  x1 I _ h))
/- 153 -/
def f_153 (x1 : Int32) (I : (Nat → Nat → Int32)) : Option (Nat → Nat → Int32) :=
  (if ex_in (I 97 30) 650 then let I1 := up I 108 ((I 97 30)).toNatClampNeg x1
  (let I2 := up I1 97 30 ((I1 97 30) + (1 : Int32))
  (some I2)) else none)
theorem m_153 {d : Nat} {κ : KT} {cs : Nat × Nat} {J : Nat → Nat → Int64} {W : Nat} {x1 : Int32} {I : (Nat → Nat → Int32)} {r : (Nat → Nat → Int32)} (h : f_153 x1 I = some r) : tm d 153 [.ref 97, .int x1] (cw (km κ) cs I J W) (.inl none) (cw (km κ) cs r J W) :=
  tm_of me_153 rfl (Nat.le_of_ble_eq_true rfl) (
  let I1 := up I 108 ((I 97 30)).toNatClampNeg x1
  tt_J (L1 := (bk_153_0.drop 5)) 4 [some (.ref 97), some (.int x1)] [.int x1, .int (I 97 30), .ref 108] (cw (km κ) cs I J W) (fun _ => rfl) (
  tt_Wi rfl (Nat.le_of_ble_eq_true rfl) h fun h =>
  let I2 := up I1 97 30 ((I1 97 30) + (1 : Int32))
  tt_R 7 (fun r => (.inl none)) (fun r => (cw (km κ) cs r J W)) h (fun _ => rfl)))
/- 154 -/
def lb_154_8 (I : (Nat → Nat → Int32)) (J : (Nat → Nat → Int64)) : Option ((Nat → Nat → Int32) × (Nat → Nat → Int64)) :=
  (some (I, J))
def lb_154_7 (I : (Nat → Nat → Int32)) (J : (Nat → Nat → Int64)) : Option ((Nat → Nat → Int32) × (Nat → Nat → Int64)) :=
  ((f_145  I).bind fun q3 => (if q3 = 0 then (lb_154_8   I J) else ((f_140  I J).bind fun q4 => (lb_154_8   q4.1 q4.2))))
def lb_154_5 (x1 : Int32) (I : (Nat → Nat → Int32)) (J : (Nat → Nat → Int64)) : Option ((Nat → Nat → Int32) × (Nat → Nat → Int64)) :=
  ((f_149 (2 : Int32) I).bind fun q7 => ((f_149 x1 q7).bind fun q8 => (lb_154_7   q8 J)))
def lb_154_4 (x1 : Int32) (I : (Nat → Nat → Int32)) (J : (Nat → Nat → Int64)) : Option ((Nat → Nat → Int32) × (Nat → Nat → Int64)) :=
  ((f_144 (3 : Int32) I).bind fun q6 => (lb_154_5  x1 q6 J))
def lb_154_2 (I : (Nat → Nat → Int32)) (J : (Nat → Nat → Int64)) : Option ((Nat → Nat → Int32) × (Nat → Nat → Int64)) :=
  ((f_149 (1 : Int32) I).bind fun q9 => ((f_149 (q9 97 20) q9).bind fun q10 => (lb_154_7   q10 J)))
def f_154 (I : (Nat → Nat → Int32)) (J : (Nat → Nat → Int64)) : Option ((Nat → Nat → Int32) × (Nat → Nat → Int64)) :=
  ((f_145  I).bind fun q1 => (if q1 = 0 then (some (I, J)) else (if (I 97 17) = (2 : Int32) then (if (4 : Int32) < (I 97 19) then ((f_144 (2 : Int32) I).bind fun q11 => (lb_154_2   q11 J)) else (lb_154_2   I J)) else (if (I 97 17) = (1 : Int32) then ((f_143  I J).bind fun q5 => (if q5 < 0 then (lb_154_4  q5 I J) else (if (5 : Int32) < q5 then (lb_154_4  q5 I J) else (lb_154_5  q5 I J)))) else ((f_144 (1 : Int32) I).bind fun q2 => (lb_154_7   q2 J))))))
theorem tl_154_8 {d : Nat} {κ : KT} {cs : Nat × Nat} {W : Nat} (I : (Nat → Nat → Int32)) (J : (Nat → Nat → Int64)) (r : ((Nat → Nat → Int32) × (Nat → Nat → Int64))) (h : lb_154_8   I J = some r) : tt (d + 3) me_154 bk_154_8 [none, none] [] (cw (km κ) cs I J W) (.inl none) (cw (km κ) cs r.1 r.2 W) :=
  tt_R 1 (fun r => (.inl none)) (fun r => (cw (km κ) cs r.1 r.2 W)) h (fun _ => rfl)
theorem tl_154_7 {d : Nat} {κ : KT} {cs : Nat × Nat} {W : Nat} (I : (Nat → Nat → Int32)) (J : (Nat → Nat → Int64)) (r : ((Nat → Nat → Int32) × (Nat → Nat → Int64))) (h : lb_154_7   I J = some r) : tt (d + 3) me_154 bk_154_7 [some (.ref 97), none] [] (cw (km κ) cs I J W) (.inl none) (cw (km κ) cs r.1 r.2 W) :=
  tt_C (L1 := (bk_154_7.drop 2)) 2 [some (.ref 97), none] [] (cw (km κ) cs I J W) h (fun _ => rfl) (fun _ e => m_145 (d := d + 2) e) fun q3 h =>
  tt_I (L1 := bk_154_8) (L2 := (bk_154_7.drop 3)) 1 [some (.ref 97), none] [] (cw (km κ) cs I J W) h (fun _ => rfl) (fun h =>
  tt_F [none, none] trivial (tl_154_8   I J _ h)) (fun h =>
  tt_C (L1 := bk_154_8) 2 [some (.ref 97), none] [] (cw (km κ) cs I J W) h (fun _ => rfl) (fun _ e => m_140 (d := d + 1) e) fun q4 h =>
  tt_F [none, none] trivial (tl_154_8   q4.1 q4.2 _ h))
theorem tl_154_5 {d : Nat} {κ : KT} {cs : Nat × Nat} {W : Nat} (x1 : Int32) (I : (Nat → Nat → Int32)) (J : (Nat → Nat → Int64)) (r : ((Nat → Nat → Int32) × (Nat → Nat → Int64))) (h : lb_154_5  x1 I J = some r) : tt (d + 3) me_154 bk_154_5 [some (.ref 97), some (.int x1)] [] (cw (km κ) cs I J W) (.inl none) (cw (km κ) cs r.1 r.2 W) :=
  tt_C (L1 := (bk_154_5.drop 3)) 3 [some (.ref 97), some (.int x1)] [] (cw (km κ) cs I J W) h (fun _ => rfl) (fun _ e => m_149 (d := d + 2) e) fun q7 h =>
  tt_C (L1 := (bk_154_5.drop 6)) 3 [some (.ref 97), some (.int x1)] [] (cw (km κ) cs q7 J W) h (fun _ => rfl) (fun _ e => m_149 (d := d + 2) e) fun q8 h =>
  tt_J (L1 := bk_154_7) 0 [some (.ref 97), some (.int x1)] [] (cw (km κ) cs q8 J W) (fun _ => rfl) (tt_F [some (.ref 97), none] (And.intro rfl trivial) (tl_154_7   q8 J _ h))
theorem tl_154_4 {d : Nat} {κ : KT} {cs : Nat × Nat} {W : Nat} (x1 : Int32) (I : (Nat → Nat → Int32)) (J : (Nat → Nat → Int64)) (r : ((Nat → Nat → Int32) × (Nat → Nat → Int64))) (h : lb_154_4  x1 I J = some r) : tt (d + 3) me_154 bk_154_4 [some (.ref 97), some (.int x1)] [] (cw (km κ) cs I J W) (.inl none) (cw (km κ) cs r.1 r.2 W) :=
  tt_C (L1 := bk_154_5) 3 [some (.ref 97), some (.int x1)] [] (cw (km κ) cs I J W) h (fun _ => rfl) (fun _ e => m_144 (d := d + 2) e) fun q6 h =>
  tt_F [some (.ref 97), some (.int x1)] (And.intro rfl (And.intro rfl trivial)) (tl_154_5  x1 q6 J _ h)
theorem tl_154_2 {d : Nat} {κ : KT} {cs : Nat × Nat} {W : Nat} (I : (Nat → Nat → Int32)) (J : (Nat → Nat → Int64)) (r : ((Nat → Nat → Int32) × (Nat → Nat → Int64))) (h : lb_154_2   I J = some r) : tt (d + 3) me_154 bk_154_2 [some (.ref 97), none] [] (cw (km κ) cs I J W) (.inl none) (cw (km κ) cs r.1 r.2 W) :=
  tt_C (L1 := (bk_154_2.drop 3)) 3 [some (.ref 97), none] [] (cw (km κ) cs I J W) h (fun _ => rfl) (fun _ e => m_149 (d := d + 2) e) fun q9 h =>
  tt_C (L1 := (bk_154_2.drop 7)) 4 [some (.ref 97), none] [] (cw (km κ) cs q9 J W) h (fun _ => rfl) (fun _ e => m_149 (d := d + 2) e) fun q10 h =>
  tt_J (L1 := bk_154_7) 0 [some (.ref 97), none] [] (cw (km κ) cs q10 J W) (fun _ => rfl) (tt_F [some (.ref 97), none] (And.intro rfl trivial) (tl_154_7   q10 J _ h))
theorem m_154 {d : Nat} {κ : KT} {cs : Nat × Nat} {W : Nat} {I : (Nat → Nat → Int32)} {J : (Nat → Nat → Int64)} {r : ((Nat → Nat → Int32) × (Nat → Nat → Int64))} (h : f_154  I J = some r) : tm (d + 3) 154 [.ref 97] (cw (km κ) cs I J W) (.inl none) (cw (km κ) cs r.1 r.2 W) :=
  tm_of me_154 rfl (Nat.le_of_ble_eq_true rfl) (
  tt_C (L1 := (bk_154_0.drop 2)) 2 [some (.ref 97), none] [] (cw (km κ) cs I J W) h (fun _ => rfl) (fun _ e => m_145 (d := d + 2) e) fun q1 h =>
  tt_I (L1 := (bk_154_0.drop 3)) (L2 := bk_154_1) 1 [some (.ref 97), none] [] (cw (km κ) cs I J W) h (fun _ => rfl) (fun h =>
  tt_R 1 (fun r => (.inl none)) (fun r => (cw (km κ) cs r.1 r.2 W)) h (fun _ => rfl)) (fun h =>
  tt_I (L1 := (bk_154_1.drop 4)) (L2 := bk_154_3) 4 [some (.ref 97), none] [] (cw (km κ) cs I J W) h (fun _ => rfl) (fun h =>
  tt_I (L1 := (bk_154_1.drop 8)) (L2 := bk_154_2) 4 [some (.ref 97), none] [] (cw (km κ) cs I J W) h (fun _ => rfl) (fun h =>
  tt_C (L1 := bk_154_2) 3 [some (.ref 97), none] [] (cw (km κ) cs I J W) h (fun _ => rfl) (fun _ e => m_144 (d := d + 2) e) fun q11 h =>
  tt_F [some (.ref 97), none] (And.intro rfl trivial) (tl_154_2   q11 J _ h)) (fun h =>
  tt_F [some (.ref 97), none] (And.intro rfl trivial) (tl_154_2   I J _ h))) (fun h =>
  tt_I (L1 := (bk_154_3.drop 4)) (L2 := bk_154_6) 4 [some (.ref 97), none] [] (cw (km κ) cs I J W) h (fun _ => rfl) (fun h =>
  tt_C (L1 := (bk_154_3.drop 6)) 2 [some (.ref 97), none] [] (cw (km κ) cs I J W) h (fun _ => rfl) (fun _ e => m_143 (d := d) e) fun q5 h =>
  tt_I (L1 := bk_154_4) (L2 := (bk_154_3.drop 9)) 3 [some (.ref 97), some (.int q5)] [] (cw (km κ) cs I J W) h (fun _ => rfl) (fun h =>
  tt_F [some (.ref 97), some (.int q5)] (And.intro rfl (And.intro rfl trivial)) (tl_154_4  q5 I J _ h)) (fun h =>
  tt_I (L1 := bk_154_4) (L2 := bk_154_5) 3 [some (.ref 97), some (.int q5)] [] (cw (km κ) cs I J W) h (fun _ => rfl) (fun h =>
  tt_F [some (.ref 97), some (.int q5)] (And.intro rfl (And.intro rfl trivial)) (tl_154_4  q5 I J _ h)) (fun h =>
  tt_F [some (.ref 97), some (.int q5)] (And.intro rfl (And.intro rfl trivial)) (tl_154_5  q5 I J _ h)))) (fun h =>
  tt_C (L1 := bk_154_7) 3 [some (.ref 97), none] [] (cw (km κ) cs I J W) h (fun _ => rfl) (fun _ e => m_144 (d := d + 2) e) fun q2 h =>
  tt_F [some (.ref 97), none] (And.intro rfl trivial) (tl_154_7   q2 J _ h)))))
/- 155 -/
def lb_155_4 (s1 : Int32) (I : (Nat → Nat → Int32)) : Option (Nat → Nat → Int32) :=
  ((f_144 s1 I).bind fun q1 => (some q1))
def lb_155_2 (I : (Nat → Nat → Int32)) : Option (Nat → Nat → Int32) :=
  (lb_155_4  (2 : Int32) I)
def f_155 (I : (Nat → Nat → Int32)) : Option (Nat → Nat → Int32) :=
  (if (I 97 31) < (6 : Int32) then (let I3 := up I 97 31 ((I 97 31) + (1 : Int32))
  (if ex_in (I3 97 31) 9 then let I4 := up I3 109 ((I3 97 31)).toNatClampNeg (vp_nar .boolean (0 : Int32))
  (some I4) else none)) else (if (I 97 17) = (2 : Int32) then (lb_155_2   I) else (if (I 97 17) = (1 : Int32) then (lb_155_2   I) else ((f_146 (40 : Int32) I).bind fun q2 => (if q2 = 0 then (lb_155_4  (1 : Int32) I) else (lb_155_2   I))))))
theorem tl_155_4 {d : Nat} {κ : KT} {cs : Nat × Nat} {J : Nat → Nat → Int64} {W : Nat} (s1 : Int32) (I : (Nat → Nat → Int32)) (r : (Nat → Nat → Int32)) (h : lb_155_4  s1 I = some r) : tt (d + 1) me_155 bk_155_4 [none] [.int s1, .ref 97] (cw (km κ) cs I J W) (.inl none) (cw (km κ) cs r J W) :=
  tt_C (L1 := (bk_155_4.drop 1)) 1 [none] [] (cw (km κ) cs I J W) h (fun _ => rfl) (fun _ e => m_144 (d := d) e) fun q1 h =>
  tt_R 1 (fun r => (.inl none)) (fun r => (cw (km κ) cs r J W)) h (fun _ => rfl)
theorem tl_155_2 {d : Nat} {κ : KT} {cs : Nat × Nat} {J : Nat → Nat → Int64} {W : Nat} (I : (Nat → Nat → Int32)) (r : (Nat → Nat → Int32)) (h : lb_155_2   I = some r) : tt (d + 1) me_155 bk_155_2 [none] [.ref 97] (cw (km κ) cs I J W) (.inl none) (cw (km κ) cs r J W) :=
  tt_J (L1 := bk_155_4) 1 [none] [.int (2 : Int32), .ref 97] (cw (km κ) cs I J W) (fun _ => rfl) (tt_F [none] trivial (tl_155_4  (2 : Int32) I _ h))
theorem m_155 {d : Nat} {κ : KT} {cs : Nat × Nat} {J : Nat → Nat → Int64} {W : Nat} {I : (Nat → Nat → Int32)} {r : (Nat → Nat → Int32)} (h : f_155  I = some r) : tm (d + 1) 155 [.ref 97] (cw (km κ) cs I J W) (.inl none) (cw (km κ) cs r J W) :=
  tm_of me_155 rfl (Nat.le_of_ble_eq_true rfl) (
  tt_I (L1 := (bk_155_0.drop 4)) (L2 := bk_155_1) 4 [some (.ref 97)] [] (cw (km κ) cs I J W) h (fun _ => rfl) (fun h =>
  let I3 := up I 97 31 ((I 97 31) + (1 : Int32))
  let I4 := up I3 109 ((I3 97 31)).toNatClampNeg (vp_nar .boolean (0 : Int32))
  tt_J (L1 := (bk_155_0.drop 15)) 10 [some (.ref 97)] [.int (0 : Int32), .int (I3 97 31), .ref 109] (cw (km κ) cs I3 J W) (fun _ => rfl) (
  tt_Wz rfl (Nat.le_of_ble_eq_true rfl) h fun h =>
  tt_R 1 (fun r => (.inl none)) (fun r => (cw (km κ) cs r J W)) h (fun _ => rfl))) (fun h =>
  tt_I (L1 := bk_155_2) (L2 := (bk_155_1.drop 5)) 5 [some (.ref 97)] [.ref 97] (cw (km κ) cs I J W) h (fun _ => rfl) (fun h =>
  tt_F [none] trivial (tl_155_2   I _ h)) (fun h =>
  tt_I (L1 := bk_155_2) (L2 := (bk_155_1.drop 9)) 4 [some (.ref 97)] [.ref 97] (cw (km κ) cs I J W) h (fun _ => rfl) (fun h =>
  tt_F [none] trivial (tl_155_2   I _ h)) (fun h =>
  tt_C (L1 := (bk_155_1.drop 12)) 3 [some (.ref 97)] [.ref 97] (cw (km κ) cs I J W) h (fun _ => rfl) (fun _ e => m_146 (d := d) e) fun q2 h =>
  tt_I (L1 := bk_155_3) (L2 := bk_155_2) 1 [some (.ref 97)] [.ref 97] (cw (km κ) cs I J W) h (fun _ => rfl) (fun h =>
  tt_J (L1 := bk_155_4) 0 [some (.ref 97)] [.int (1 : Int32), .ref 97] (cw (km κ) cs I J W) (fun _ => rfl) (tt_F [none] trivial (tl_155_4  (1 : Int32) I _ h))) (fun h =>
  tt_F [none] trivial (tl_155_2   I _ h))))))
/- 156 -/
def lb_156_9 (I : (Nat → Nat → Int32)) (J : (Nat → Nat → Int64)) : Option ((Nat → Nat → Int32) × (Nat → Nat → Int64)) :=
  ((f_154  I J).bind fun q1 => (some (q1.1, q1.2)))
def lb_156_8 (c1 : Int32 → Int32 → (Nat → Nat → Int32) → (Nat → Nat → Int64) → Option ((Nat → Nat → Int32) × (Nat → Nat → Int64))) (x2 : Int32) (x3 : Int32) (I : (Nat → Nat → Int32)) (J : (Nat → Nat → Int64)) : Option ((Nat → Nat → Int32) × (Nat → Nat → Int64)) :=
  (c1 x2 x3 I J)
def lb_156_7 (c1 : Int32 → Int32 → (Nat → Nat → Int32) → (Nat → Nat → Int64) → Option ((Nat → Nat → Int32) × (Nat → Nat → Int64))) (x2 : Int32) (s0 : Int32) (I : (Nat → Nat → Int32)) (J : (Nat → Nat → Int64)) : Option ((Nat → Nat → Int32) × (Nat → Nat → Int64)) :=
  (if s0 = 0 then (lb_156_8 c1 x2 s0 I J) else ((f_153 (14 : Int32) I).bind fun q5 => ((f_140  q5 J).bind fun q6 => ((f_155  q6.1).bind fun q7 => (lb_156_8 c1 (1 : Int32) s0 q7 q6.2)))))
def lb_156_6 (c1 : Int32 → Int32 → (Nat → Nat → Int32) → (Nat → Nat → Int64) → Option ((Nat → Nat → Int32) × (Nat → Nat → Int64))) (x2 : Int32) (I : (Nat → Nat → Int32)) (J : (Nat → Nat → Int64)) : Option ((Nat → Nat → Int32) × (Nat → Nat → Int64)) :=
  (lb_156_7 c1 x2 (0 : Int32) I J)
def lb_156_5 (c1 : Int32 → Int32 → (Nat → Nat → Int32) → (Nat → Nat → Int64) → Option ((Nat → Nat → Int32) × (Nat → Nat → Int64))) (x2 : Int32) (I : (Nat → Nat → Int32)) (J : (Nat → Nat → Int64)) : Option ((Nat → Nat → Int32) × (Nat → Nat → Int64)) :=
  ((f_145  I).bind fun q4 => (if q4 = 0 then (lb_156_6 c1 x2 I J) else ((f_146 (40 : Int32) I).bind fun q8 => (if q8 = 0 then (lb_156_6 c1 x2 I J) else (lb_156_7 c1 x2 (1 : Int32) I J)))))
def lb_156_3 (c2 : Int32 → Int32 → (Nat → Nat → Int32) → (Nat → Nat → Int64) → Option ((Nat → Nat → Int32) × (Nat → Nat → Int64))) (x2 : Int32) (x4 : Int32) (I : (Nat → Nat → Int32)) (J : (Nat → Nat → Int64)) : Option ((Nat → Nat → Int32) × (Nat → Nat → Int64)) :=
  ((f_145  I).bind fun q10 => (if q10 = 0 then (c2 x2 (x4 + (1 : Int32)) I J) else ((f_153 (3 : Int32) I).bind fun q11 => ((f_140  q11 J).bind fun q12 => (c2 x2 (x4 + (1 : Int32)) q12.1 q12.2)))))
def bd_156_2 (c1 : Int32 → Int32 → (Nat → Nat → Int32) → (Nat → Nat → Int64) → Option ((Nat → Nat → Int32) × (Nat → Nat → Int64))) (c2 : Int32 → Int32 → (Nat → Nat → Int32) → (Nat → Nat → Int64) → Option ((Nat → Nat → Int32) × (Nat → Nat → Int64))) (x2 : Int32) (x4 : Int32) (I : (Nat → Nat → Int32)) (J : (Nat → Nat → Int64)) : Option ((Nat → Nat → Int32) × (Nat → Nat → Int64)) :=
  ((f_145  I).bind fun q3 => (if q3 = 0 then (lb_156_5 c1 x2 I J) else (if x2 = 0 then (lb_156_5 c1 x2 I J) else ((f_143  I J).bind fun q9 => (if q9 = (15 : Int32) then (if x4 = (6 : Int32) then ((f_144 (2 : Int32) I).bind fun q13 => (lb_156_3 c2 x2 x4 q13 J)) else (lb_156_3 c2 x2 x4 I J)) else (lb_156_5 c1 x2 I J))))))
def lb_156_2 (c1 : Int32 → Int32 → (Nat → Nat → Int32) → (Nat → Nat → Int64) → Option ((Nat → Nat → Int32) × (Nat → Nat → Int64))) : Int32 → Int32 → (Nat → Nat → Int32) → (Nat → Nat → Int64) → Option ((Nat → Nat → Int32) × (Nat → Nat → Int64)) := fx (fun _ _ _ _ => none) (bd_156_2 c1) FU
def bd_156_1 (c1 : Int32 → Int32 → (Nat → Nat → Int32) → (Nat → Nat → Int64) → Option ((Nat → Nat → Int32) × (Nat → Nat → Int64))) (x2 : Int32) (x3 : Int32) (I : (Nat → Nat → Int32)) (J : (Nat → Nat → Int64)) : Option ((Nat → Nat → Int32) × (Nat → Nat → Int64)) :=
  (if x3 = 0 then (lb_156_9   I J) else ((f_145  I).bind fun q2 => (if q2 = 0 then (lb_156_9   I J) else (lb_156_2 c1 x2 (0 : Int32) I J))))
def lb_156_1 : Int32 → Int32 → (Nat → Nat → Int32) → (Nat → Nat → Int64) → Option ((Nat → Nat → Int32) × (Nat → Nat → Int64)) := fx (fun _ _ _ _ => none) (bd_156_1 ) FU
def f_156 (x1 : Int32) (I : (Nat → Nat → Int32)) (J : (Nat → Nat → Int64)) : Option ((Nat → Nat → Int32) × (Nat → Nat → Int64)) :=
  (lb_156_1  x1 (1 : Int32) I J)
theorem tl_156_9 {d : Nat} {κ : KT} {cs : Nat × Nat} {W : Nat} (I : (Nat → Nat → Int32)) (J : (Nat → Nat → Int64)) (r : ((Nat → Nat → Int32) × (Nat → Nat → Int64))) (h : lb_156_9   I J = some r) : tt (d + 4) me_156 bk_156_9 [some (.ref 97), none, none, none, none] [] (cw (km κ) cs I J W) (.inl none) (cw (km κ) cs r.1 r.2 W) :=
  tt_C (L1 := (bk_156_9.drop 2)) 2 [some (.ref 97), none, none, none, none] [] (cw (km κ) cs I J W) h (fun _ => rfl) (fun _ e => m_154 (d := d) e) fun q1 h =>
  tt_R 1 (fun r => (.inl none)) (fun r => (cw (km κ) cs r.1 r.2 W)) h (fun _ => rfl)
theorem tl_156_8 {d : Nat} {κ : KT} {cs : Nat × Nat} {W : Nat} (c1 : Int32 → Int32 → (Nat → Nat → Int32) → (Nat → Nat → Int64) → Option ((Nat → Nat → Int32) × (Nat → Nat → Int64))) (k1 : ∀ (x2 : Int32) (x3 : Int32) (I : (Nat → Nat → Int32)) (J : (Nat → Nat → Int64)) (r : ((Nat → Nat → Int32) × (Nat → Nat → Int64))), c1 x2 x3 I J = some r → tt (d + 4) me_156 bk_156_1 [some (.ref 97), none, some (.int x2), some (.int x3), none] [] (cw (km κ) cs I J W) (.inl none) (cw (km κ) cs r.1 r.2 W)) (x2 : Int32) (x3 : Int32) (I : (Nat → Nat → Int32)) (J : (Nat → Nat → Int64)) (r : ((Nat → Nat → Int32) × (Nat → Nat → Int64))) (h : lb_156_8 c1 x2 x3 I J = some r) : tt (d + 4) me_156 bk_156_8 [some (.ref 97), none, some (.int x2), some (.int x3), none] [] (cw (km κ) cs I J W) (.inl none) (cw (km κ) cs r.1 r.2 W) :=
  tt_J (L1 := bk_156_1) 0 [some (.ref 97), none, some (.int x2), some (.int x3), none] [] (cw (km κ) cs I J W) (fun _ => rfl) (tt_F [some (.ref 97), none, some (.int x2), some (.int x3), none] (And.intro rfl (And.intro rfl (And.intro rfl trivial))) (k1 x2 x3 I J _ h))
theorem tl_156_7 {d : Nat} {κ : KT} {cs : Nat × Nat} {W : Nat} (c1 : Int32 → Int32 → (Nat → Nat → Int32) → (Nat → Nat → Int64) → Option ((Nat → Nat → Int32) × (Nat → Nat → Int64))) (k1 : ∀ (x2 : Int32) (x3 : Int32) (I : (Nat → Nat → Int32)) (J : (Nat → Nat → Int64)) (r : ((Nat → Nat → Int32) × (Nat → Nat → Int64))), c1 x2 x3 I J = some r → tt (d + 4) me_156 bk_156_1 [some (.ref 97), none, some (.int x2), some (.int x3), none] [] (cw (km κ) cs I J W) (.inl none) (cw (km κ) cs r.1 r.2 W)) (x2 : Int32) (s0 : Int32) (I : (Nat → Nat → Int32)) (J : (Nat → Nat → Int64)) (r : ((Nat → Nat → Int32) × (Nat → Nat → Int64))) (h : lb_156_7 c1 x2 s0 I J = some r) : tt (d + 4) me_156 bk_156_7 [some (.ref 97), none, some (.int x2), none, none] [.int s0] (cw (km κ) cs I J W) (.inl none) (cw (km κ) cs r.1 r.2 W) :=
  tt_I (L1 := bk_156_8) (L2 := (bk_156_7.drop 3)) 3 [some (.ref 97), none, some (.int x2), some (.int s0), none] [] (cw (km κ) cs I J W) h (fun _ => rfl) (fun h =>
  tt_F [some (.ref 97), none, some (.int x2), some (.int s0), none] (And.intro rfl (And.intro rfl (And.intro rfl trivial))) (tl_156_8 c1 k1 x2 s0 I J _ h)) (fun h =>
  tt_C (L1 := (bk_156_7.drop 6)) 3 [some (.ref 97), none, some (.int x2), some (.int s0), none] [] (cw (km κ) cs I J W) h (fun _ => rfl) (fun _ e => m_153 (d := d + 3) e) fun q5 h =>
  tt_C (L1 := (bk_156_7.drop 8)) 2 [some (.ref 97), none, some (.int x2), some (.int s0), none] [] (cw (km κ) cs q5 J W) h (fun _ => rfl) (fun _ e => m_140 (d := d + 2) e) fun q6 h =>
  tt_C (L1 := (bk_156_7.drop 10)) 2 [some (.ref 97), none, some (.int x2), some (.int s0), none] [] (cw (km κ) cs q6.1 q6.2 W) h (fun _ => rfl) (fun _ e => m_155 (d := d + 2) e) fun q7 h =>
  tt_J (L1 := bk_156_8) 1 [some (.ref 97), none, some (.int (1 : Int32)), some (.int s0), none] [] (cw (km κ) cs q7 q6.2 W) (fun _ => rfl) (tt_F [some (.ref 97), none, some (.int (1 : Int32)), some (.int s0), none] (And.intro rfl (And.intro rfl (And.intro rfl trivial))) (tl_156_8 c1 k1 (1 : Int32) s0 q7 q6.2 _ h)))
theorem tl_156_6 {d : Nat} {κ : KT} {cs : Nat × Nat} {W : Nat} (c1 : Int32 → Int32 → (Nat → Nat → Int32) → (Nat → Nat → Int64) → Option ((Nat → Nat → Int32) × (Nat → Nat → Int64))) (k1 : ∀ (x2 : Int32) (x3 : Int32) (I : (Nat → Nat → Int32)) (J : (Nat → Nat → Int64)) (r : ((Nat → Nat → Int32) × (Nat → Nat → Int64))), c1 x2 x3 I J = some r → tt (d + 4) me_156 bk_156_1 [some (.ref 97), none, some (.int x2), some (.int x3), none] [] (cw (km κ) cs I J W) (.inl none) (cw (km κ) cs r.1 r.2 W)) (x2 : Int32) (I : (Nat → Nat → Int32)) (J : (Nat → Nat → Int64)) (r : ((Nat → Nat → Int32) × (Nat → Nat → Int64))) (h : lb_156_6 c1 x2 I J = some r) : tt (d + 4) me_156 bk_156_6 [some (.ref 97), none, some (.int x2), none, none] [] (cw (km κ) cs I J W) (.inl none) (cw (km κ) cs r.1 r.2 W) :=
  tt_J (L1 := bk_156_7) 0 [some (.ref 97), none, some (.int x2), none, none] [.int (0 : Int32)] (cw (km κ) cs I J W) (fun _ => rfl) (tt_F [some (.ref 97), none, some (.int x2), none, none] (And.intro rfl (And.intro rfl trivial)) (tl_156_7 c1 k1 x2 (0 : Int32) I J _ h))
theorem tl_156_5 {d : Nat} {κ : KT} {cs : Nat × Nat} {W : Nat} (c1 : Int32 → Int32 → (Nat → Nat → Int32) → (Nat → Nat → Int64) → Option ((Nat → Nat → Int32) × (Nat → Nat → Int64))) (k1 : ∀ (x2 : Int32) (x3 : Int32) (I : (Nat → Nat → Int32)) (J : (Nat → Nat → Int64)) (r : ((Nat → Nat → Int32) × (Nat → Nat → Int64))), c1 x2 x3 I J = some r → tt (d + 4) me_156 bk_156_1 [some (.ref 97), none, some (.int x2), some (.int x3), none] [] (cw (km κ) cs I J W) (.inl none) (cw (km κ) cs r.1 r.2 W)) (x2 : Int32) (I : (Nat → Nat → Int32)) (J : (Nat → Nat → Int64)) (r : ((Nat → Nat → Int32) × (Nat → Nat → Int64))) (h : lb_156_5 c1 x2 I J = some r) : tt (d + 4) me_156 bk_156_5 [some (.ref 97), none, some (.int x2), none, none] [] (cw (km κ) cs I J W) (.inl none) (cw (km κ) cs r.1 r.2 W) :=
  tt_C (L1 := (bk_156_5.drop 2)) 2 [some (.ref 97), none, some (.int x2), none, none] [] (cw (km κ) cs I J W) h (fun _ => rfl) (fun _ e => m_145 (d := d + 3) e) fun q4 h =>
  tt_I (L1 := bk_156_6) (L2 := (bk_156_5.drop 3)) 1 [some (.ref 97), none, some (.int x2), none, none] [] (cw (km κ) cs I J W) h (fun _ => rfl) (fun h =>
  tt_F [some (.ref 97), none, some (.int x2), none, none] (And.intro rfl (And.intro rfl trivial)) (tl_156_6 c1 k1 x2 I J _ h)) (fun h =>
  tt_C (L1 := (bk_156_5.drop 6)) 3 [some (.ref 97), none, some (.int x2), none, none] [] (cw (km κ) cs I J W) h (fun _ => rfl) (fun _ e => m_146 (d := d + 3) e) fun q8 h =>
  tt_I (L1 := bk_156_6) (L2 := (bk_156_5.drop 7)) 1 [some (.ref 97), none, some (.int x2), none, none] [] (cw (km κ) cs I J W) h (fun _ => rfl) (fun h =>
  tt_F [some (.ref 97), none, some (.int x2), none, none] (And.intro rfl (And.intro rfl trivial)) (tl_156_6 c1 k1 x2 I J _ h)) (fun h =>
  tt_J (L1 := bk_156_7) 1 [some (.ref 97), none, some (.int x2), none, none] [.int (1 : Int32)] (cw (km κ) cs I J W) (fun _ => rfl) (tt_F [some (.ref 97), none, some (.int x2), none, none] (And.intro rfl (And.intro rfl trivial)) (tl_156_7 c1 k1 x2 (1 : Int32) I J _ h))))
theorem tl_156_3 {d : Nat} {κ : KT} {cs : Nat × Nat} {W : Nat} (c2 : Int32 → Int32 → (Nat → Nat → Int32) → (Nat → Nat → Int64) → Option ((Nat → Nat → Int32) × (Nat → Nat → Int64))) (k2 : ∀ (x2 : Int32) (x4 : Int32) (I : (Nat → Nat → Int32)) (J : (Nat → Nat → Int64)) (r : ((Nat → Nat → Int32) × (Nat → Nat → Int64))), c2 x2 x4 I J = some r → tt (d + 4) me_156 bk_156_2 [some (.ref 97), none, some (.int x2), none, some (.int x4)] [] (cw (km κ) cs I J W) (.inl none) (cw (km κ) cs r.1 r.2 W)) (x2 : Int32) (x4 : Int32) (I : (Nat → Nat → Int32)) (J : (Nat → Nat → Int64)) (r : ((Nat → Nat → Int32) × (Nat → Nat → Int64))) (h : lb_156_3 c2 x2 x4 I J = some r) : tt (d + 4) me_156 bk_156_3 [some (.ref 97), none, some (.int x2), none, some (.int x4)] [] (cw (km κ) cs I J W) (.inl none) (cw (km κ) cs r.1 r.2 W) :=
  tt_C (L1 := (bk_156_3.drop 3)) 3 [some (.ref 97), none, some (.int x2), none, some (.int (x4 + (1 : Int32)))] [] (cw (km κ) cs I J W) h (fun _ => rfl) (fun _ e => m_145 (d := d + 3) e) fun q10 h =>
  tt_I (L1 := (bk_156_3.drop 4)) (L2 := bk_156_4) 1 [some (.ref 97), none, some (.int x2), none, some (.int (x4 + (1 : Int32)))] [] (cw (km κ) cs I J W) h (fun _ => rfl) (fun h =>
  tt_J (L1 := bk_156_2) 0 [some (.ref 97), none, some (.int x2), none, some (.int (x4 + (1 : Int32)))] [] (cw (km κ) cs I J W) (fun _ => rfl) (tt_F [some (.ref 97), none, some (.int x2), none, some (.int (x4 + (1 : Int32)))] (And.intro rfl (And.intro rfl (And.intro rfl trivial))) (k2 x2 (x4 + (1 : Int32)) I J _ h))) (fun h =>
  tt_C (L1 := (bk_156_4.drop 3)) 3 [some (.ref 97), none, some (.int x2), none, some (.int (x4 + (1 : Int32)))] [] (cw (km κ) cs I J W) h (fun _ => rfl) (fun _ e => m_153 (d := d + 3) e) fun q11 h =>
  tt_C (L1 := (bk_156_4.drop 5)) 2 [some (.ref 97), none, some (.int x2), none, some (.int (x4 + (1 : Int32)))] [] (cw (km κ) cs q11 J W) h (fun _ => rfl) (fun _ e => m_140 (d := d + 2) e) fun q12 h =>
  tt_J (L1 := bk_156_2) 0 [some (.ref 97), none, some (.int x2), none, some (.int (x4 + (1 : Int32)))] [] (cw (km κ) cs q12.1 q12.2 W) (fun _ => rfl) (tt_F [some (.ref 97), none, some (.int x2), none, some (.int (x4 + (1 : Int32)))] (And.intro rfl (And.intro rfl (And.intro rfl trivial))) (k2 x2 (x4 + (1 : Int32)) q12.1 q12.2 _ h)))
theorem tb_156_2 {d : Nat} {κ : KT} {cs : Nat × Nat} {W : Nat} (c1 : Int32 → Int32 → (Nat → Nat → Int32) → (Nat → Nat → Int64) → Option ((Nat → Nat → Int32) × (Nat → Nat → Int64))) (k1 : ∀ (x2 : Int32) (x3 : Int32) (I : (Nat → Nat → Int32)) (J : (Nat → Nat → Int64)) (r : ((Nat → Nat → Int32) × (Nat → Nat → Int64))), c1 x2 x3 I J = some r → tt (d + 4) me_156 bk_156_1 [some (.ref 97), none, some (.int x2), some (.int x3), none] [] (cw (km κ) cs I J W) (.inl none) (cw (km κ) cs r.1 r.2 W)) (c2 : Int32 → Int32 → (Nat → Nat → Int32) → (Nat → Nat → Int64) → Option ((Nat → Nat → Int32) × (Nat → Nat → Int64))) (k2 : ∀ (x2 : Int32) (x4 : Int32) (I : (Nat → Nat → Int32)) (J : (Nat → Nat → Int64)) (r : ((Nat → Nat → Int32) × (Nat → Nat → Int64))), c2 x2 x4 I J = some r → tt (d + 4) me_156 bk_156_2 [some (.ref 97), none, some (.int x2), none, some (.int x4)] [] (cw (km κ) cs I J W) (.inl none) (cw (km κ) cs r.1 r.2 W)) (x2 : Int32) (x4 : Int32) (I : (Nat → Nat → Int32)) (J : (Nat → Nat → Int64)) (r : ((Nat → Nat → Int32) × (Nat → Nat → Int64))) (h : bd_156_2 c1 c2 x2 x4 I J = some r) : tt (d + 4) me_156 bk_156_2 [some (.ref 97), none, some (.int x2), none, some (.int x4)] [] (cw (km κ) cs I J W) (.inl none) (cw (km κ) cs r.1 r.2 W) :=
  tt_C (L1 := (bk_156_2.drop 2)) 2 [some (.ref 97), none, some (.int x2), none, some (.int x4)] [] (cw (km κ) cs I J W) h (fun _ => rfl) (fun _ e => m_145 (d := d + 3) e) fun q3 h =>
  tt_I (L1 := bk_156_5) (L2 := (bk_156_2.drop 3)) 1 [some (.ref 97), none, some (.int x2), none, some (.int x4)] [] (cw (km κ) cs I J W) h (fun _ => rfl) (fun h =>
  tt_F [some (.ref 97), none, some (.int x2), none, none] (And.intro rfl (And.intro rfl trivial)) (tl_156_5 c1 k1 x2 I J _ h)) (fun h =>
  tt_I (L1 := bk_156_5) (L2 := (bk_156_2.drop 5)) 2 [some (.ref 97), none, some (.int x2), none, some (.int x4)] [] (cw (km κ) cs I J W) h (fun _ => rfl) (fun h =>
  tt_F [some (.ref 97), none, some (.int x2), none, none] (And.intro rfl (And.intro rfl trivial)) (tl_156_5 c1 k1 x2 I J _ h)) (fun h =>
  tt_C (L1 := (bk_156_2.drop 7)) 2 [some (.ref 97), none, some (.int x2), none, some (.int x4)] [] (cw (km κ) cs I J W) h (fun _ => rfl) (fun _ e => m_143 (d := d + 1) e) fun q9 h =>
  tt_I (L1 := (bk_156_2.drop 9)) (L2 := bk_156_5) 2 [some (.ref 97), none, some (.int x2), none, some (.int x4)] [] (cw (km κ) cs I J W) h (fun _ => rfl) (fun h =>
  tt_I (L1 := (bk_156_2.drop 12)) (L2 := bk_156_3) 3 [some (.ref 97), none, some (.int x2), none, some (.int x4)] [] (cw (km κ) cs I J W) h (fun _ => rfl) (fun h =>
  tt_C (L1 := bk_156_3) 3 [some (.ref 97), none, some (.int x2), none, some (.int x4)] [] (cw (km κ) cs I J W) h (fun _ => rfl) (fun _ e => m_144 (d := d + 3) e) fun q13 h =>
  tt_F [some (.ref 97), none, some (.int x2), none, some (.int x4)] (And.intro rfl (And.intro rfl (And.intro rfl trivial))) (tl_156_3 c2 k2 x2 x4 q13 J _ h)) (fun h =>
  tt_F [some (.ref 97), none, some (.int x2), none, some (.int x4)] (And.intro rfl (And.intro rfl (And.intro rfl trivial))) (tl_156_3 c2 k2 x2 x4 I J _ h))) (fun h =>
  tt_F [some (.ref 97), none, some (.int x2), none, none] (And.intro rfl (And.intro rfl trivial)) (tl_156_5 c1 k1 x2 I J _ h))))
theorem tn_156_2 {d : Nat} {κ : KT} {cs : Nat × Nat} {W : Nat} (c1 : Int32 → Int32 → (Nat → Nat → Int32) → (Nat → Nat → Int64) → Option ((Nat → Nat → Int32) × (Nat → Nat → Int64))) (k1 : ∀ (x2 : Int32) (x3 : Int32) (I : (Nat → Nat → Int32)) (J : (Nat → Nat → Int64)) (r : ((Nat → Nat → Int32) × (Nat → Nat → Int64))), c1 x2 x3 I J = some r → tt (d + 4) me_156 bk_156_1 [some (.ref 97), none, some (.int x2), some (.int x3), none] [] (cw (km κ) cs I J W) (.inl none) (cw (km κ) cs r.1 r.2 W)) : ∀ (n : Nat) (x2 : Int32) (x4 : Int32) (I : (Nat → Nat → Int32)) (J : (Nat → Nat → Int64)) (r : ((Nat → Nat → Int32) × (Nat → Nat → Int64))), fx (fun _ _ _ _ => none) (bd_156_2 c1) n x2 x4 I J = some r → tt (d + 4) me_156 bk_156_2 [some (.ref 97), none, some (.int x2), none, some (.int x4)] [] (cw (km κ) cs I J W) (.inl none) (cw (km κ) cs r.1 r.2 W)
  | 0 => fun _ _ _ _ _ h => nomatch h
  | n + 1 => fun x2 x4 I J r h => tb_156_2 c1 k1 (fx _ (bd_156_2 c1) n) (tn_156_2 c1 k1 n) x2 x4 I J r h
theorem tl_156_2 {d : Nat} {κ : KT} {cs : Nat × Nat} {W : Nat} (c1 : Int32 → Int32 → (Nat → Nat → Int32) → (Nat → Nat → Int64) → Option ((Nat → Nat → Int32) × (Nat → Nat → Int64))) (k1 : ∀ (x2 : Int32) (x3 : Int32) (I : (Nat → Nat → Int32)) (J : (Nat → Nat → Int64)) (r : ((Nat → Nat → Int32) × (Nat → Nat → Int64))), c1 x2 x3 I J = some r → tt (d + 4) me_156 bk_156_1 [some (.ref 97), none, some (.int x2), some (.int x3), none] [] (cw (km κ) cs I J W) (.inl none) (cw (km κ) cs r.1 r.2 W)) (x2 : Int32) (x4 : Int32) (I : (Nat → Nat → Int32)) (J : (Nat → Nat → Int64)) (r : ((Nat → Nat → Int32) × (Nat → Nat → Int64))) (h : lb_156_2 c1 x2 x4 I J = some r) : tt (d + 4) me_156 bk_156_2 [some (.ref 97), none, some (.int x2), none, some (.int x4)] [] (cw (km κ) cs I J W) (.inl none) (cw (km κ) cs r.1 r.2 W) := tn_156_2 c1 k1 FU x2 x4 I J r h
theorem tb_156_1 {d : Nat} {κ : KT} {cs : Nat × Nat} {W : Nat} (c1 : Int32 → Int32 → (Nat → Nat → Int32) → (Nat → Nat → Int64) → Option ((Nat → Nat → Int32) × (Nat → Nat → Int64))) (k1 : ∀ (x2 : Int32) (x3 : Int32) (I : (Nat → Nat → Int32)) (J : (Nat → Nat → Int64)) (r : ((Nat → Nat → Int32) × (Nat → Nat → Int64))), c1 x2 x3 I J = some r → tt (d + 4) me_156 bk_156_1 [some (.ref 97), none, some (.int x2), some (.int x3), none] [] (cw (km κ) cs I J W) (.inl none) (cw (km κ) cs r.1 r.2 W)) (x2 : Int32) (x3 : Int32) (I : (Nat → Nat → Int32)) (J : (Nat → Nat → Int64)) (r : ((Nat → Nat → Int32) × (Nat → Nat → Int64))) (h : bd_156_1  c1 x2 x3 I J = some r) : tt (d + 4) me_156 bk_156_1 [some (.ref 97), none, some (.int x2), some (.int x3), none] [] (cw (km κ) cs I J W) (.inl none) (cw (km κ) cs r.1 r.2 W) :=
  tt_I (L1 := bk_156_9) (L2 := (bk_156_1.drop 2)) 2 [some (.ref 97), none, some (.int x2), some (.int x3), none] [] (cw (km κ) cs I J W) h (fun _ => rfl) (fun h =>
  tt_F [some (.ref 97), none, none, none, none] (And.intro rfl trivial) (tl_156_9   I J _ h)) (fun h =>
  tt_C (L1 := (bk_156_1.drop 4)) 2 [some (.ref 97), none, some (.int x2), some (.int x3), none] [] (cw (km κ) cs I J W) h (fun _ => rfl) (fun _ e => m_145 (d := d + 3) e) fun q2 h =>
  tt_I (L1 := bk_156_9) (L2 := (bk_156_1.drop 5)) 1 [some (.ref 97), none, some (.int x2), some (.int x3), none] [] (cw (km κ) cs I J W) h (fun _ => rfl) (fun h =>
  tt_F [some (.ref 97), none, none, none, none] (And.intro rfl trivial) (tl_156_9   I J _ h)) (fun h =>
  tt_J (L1 := bk_156_2) 1 [some (.ref 97), none, some (.int x2), some (.int x3), some (.int (0 : Int32))] [] (cw (km κ) cs I J W) (fun _ => rfl) (tt_F [some (.ref 97), none, some (.int x2), none, some (.int (0 : Int32))] (And.intro rfl (And.intro rfl (And.intro rfl trivial))) (tl_156_2 c1 k1 x2 (0 : Int32) I J _ h))))
theorem tn_156_1 {d : Nat} {κ : KT} {cs : Nat × Nat} {W : Nat} : ∀ (n : Nat) (x2 : Int32) (x3 : Int32) (I : (Nat → Nat → Int32)) (J : (Nat → Nat → Int64)) (r : ((Nat → Nat → Int32) × (Nat → Nat → Int64))), fx (fun _ _ _ _ => none) (bd_156_1 ) n x2 x3 I J = some r → tt (d + 4) me_156 bk_156_1 [some (.ref 97), none, some (.int x2), some (.int x3), none] [] (cw (km κ) cs I J W) (.inl none) (cw (km κ) cs r.1 r.2 W)
  | 0 => fun _ _ _ _ _ h => nomatch h
  | n + 1 => fun x2 x3 I J r h => tb_156_1  (fx _ (bd_156_1 ) n) (tn_156_1  n) x2 x3 I J r h
theorem tl_156_1 {d : Nat} {κ : KT} {cs : Nat × Nat} {W : Nat} (x2 : Int32) (x3 : Int32) (I : (Nat → Nat → Int32)) (J : (Nat → Nat → Int64)) (r : ((Nat → Nat → Int32) × (Nat → Nat → Int64))) (h : lb_156_1  x2 x3 I J = some r) : tt (d + 4) me_156 bk_156_1 [some (.ref 97), none, some (.int x2), some (.int x3), none] [] (cw (km κ) cs I J W) (.inl none) (cw (km κ) cs r.1 r.2 W) := tn_156_1  FU x2 x3 I J r h
theorem m_156 {d : Nat} {κ : KT} {cs : Nat × Nat} {W : Nat} {x1 : Int32} {I : (Nat → Nat → Int32)} {J : (Nat → Nat → Int64)} {r : ((Nat → Nat → Int32) × (Nat → Nat → Int64))} (h : f_156 x1 I J = some r) : tm (d + 4) 156 [.ref 97, .int x1] (cw (km κ) cs I J W) (.inl none) (cw (km κ) cs r.1 r.2 W) :=
  tm_of me_156 rfl (Nat.le_of_ble_eq_true rfl) (
  tt_J (L1 := bk_156_1) 3 [some (.ref 97), some (.int x1), some (.int x1), some (.int (1 : Int32)), none] [] (cw (km κ) cs I J W) (fun _ => rfl) (tt_F [some (.ref 97), none, some (.int x1), some (.int (1 : Int32)), none] (And.intro rfl (And.intro rfl (And.intro rfl trivial))) (tl_156_1  x1 (1 : Int32) I J _ h)))
/- 157 -/
def lb_157_4 (s0 : Int32) (I : (Nat → Nat → Int32)) : Option Int32 :=
  (if (s0 = 0 ∨ s0 = 1) then some s0 else none)
def lb_157_2 (x1 : Int32) (I : (Nat → Nat → Int32)) : Option Int32 :=
  (if x1 < 0 then (lb_157_4  (0 : Int32) I) else (lb_157_4  (1 : Int32) I))
def bd_157_1 (c1 : Int32 → (Nat → Nat → Int32) → Option Int32) (x1 : Int32) (I : (Nat → Nat → Int32)) : Option Int32 :=
  (if x1 < 0 then (lb_157_2  x1 I) else (if ex_in x1 650 then ((f_150 (I 108 (x1).toNatClampNeg) ).bind fun q1 => (if q1 = 0 then (c1 (x1 + ((-1) : Int32)) I) else (lb_157_2  x1 I))) else none))
def lb_157_1 : Int32 → (Nat → Nat → Int32) → Option Int32 := fx (fun _ _ => none) (bd_157_1 ) FU
def f_157 (I : (Nat → Nat → Int32)) : Option Int32 :=
  (lb_157_1  ((I 97 30) - (1 : Int32)) I)
theorem tl_157_4 {d : Nat} {κ : KT} {cs : Nat × Nat} {J : Nat → Nat → Int64} {W : Nat} (s0 : Int32) (I : (Nat → Nat → Int32)) (r : Int32) (h : lb_157_4  s0 I = some r) : tt (d + 1) me_157 bk_157_4 [none, none] [.int s0] (cw (km κ) cs I J W) (.inl (some (.int r))) (cw (km κ) cs I J W) :=
  tt_B 1 (fun r => (.inl (some (.int r)))) (fun r => (cw (km κ) cs I J W)) h (fun q => Or.inr (Or.inl ⟨rfl, q⟩)) (fun _ => rfl)
theorem tl_157_2 {d : Nat} {κ : KT} {cs : Nat × Nat} {J : Nat → Nat → Int64} {W : Nat} (x1 : Int32) (I : (Nat → Nat → Int32)) (r : Int32) (h : lb_157_2  x1 I = some r) : tt (d + 1) me_157 bk_157_2 [none, some (.int x1)] [] (cw (km κ) cs I J W) (.inl (some (.int r))) (cw (km κ) cs I J W) :=
  tt_I (L1 := bk_157_3) (L2 := (bk_157_2.drop 2)) 2 [none, some (.int x1)] [] (cw (km κ) cs I J W) h (fun _ => rfl) (fun h =>
  tt_J (L1 := bk_157_4) 0 [none, some (.int x1)] [.int (0 : Int32)] (cw (km κ) cs I J W) (fun _ => rfl) (tt_F [none, none] trivial (tl_157_4  (0 : Int32) I _ h))) (fun h =>
  tt_J (L1 := bk_157_4) 1 [none, some (.int x1)] [.int (1 : Int32)] (cw (km κ) cs I J W) (fun _ => rfl) (tt_F [none, none] trivial (tl_157_4  (1 : Int32) I _ h)))
theorem tb_157_1 {d : Nat} {κ : KT} {cs : Nat × Nat} {J : Nat → Nat → Int64} {W : Nat} (c1 : Int32 → (Nat → Nat → Int32) → Option Int32) (k1 : ∀ (x1 : Int32) (I : (Nat → Nat → Int32)) (r : Int32), c1 x1 I = some r → tt (d + 1) me_157 bk_157_1 [some (.ref 97), some (.int x1)] [] (cw (km κ) cs I J W) (.inl (some (.int r))) (cw (km κ) cs I J W)) (x1 : Int32) (I : (Nat → Nat → Int32)) (r : Int32) (h : bd_157_1  c1 x1 I = some r) : tt (d + 1) me_157 bk_157_1 [some (.ref 97), some (.int x1)] [] (cw (km κ) cs I J W) (.inl (some (.int r))) (cw (km κ) cs I J W) :=
  tt_I (L1 := bk_157_2) (L2 := (bk_157_1.drop 2)) 2 [some (.ref 97), some (.int x1)] [] (cw (km κ) cs I J W) h (fun _ => rfl) (fun h =>
  tt_F [none, some (.int x1)] (And.intro rfl trivial) (tl_157_2  x1 I _ h)) (fun h =>
  tt_J (L1 := (bk_157_1.drop 5)) 2 [some (.ref 97), some (.int x1)] [.int x1, .ref 108] (cw (km κ) cs I J W) (fun _ => rfl) (
  tt_Qi rfl h fun h =>
  tt_C (L1 := (bk_157_1.drop 7)) 1 [some (.ref 97), some (.int x1)] [] (cw (km κ) cs I J W) h (fun _ => rfl) (fun _ e => m_150 (d := d) e) fun q1 h =>
  tt_I (L1 := (bk_157_1.drop 8)) (L2 := bk_157_2) 1 [some (.ref 97), some (.int x1)] [] (cw (km κ) cs I J W) h (fun _ => rfl) (fun h =>
  tt_J (L1 := bk_157_1) 1 [some (.ref 97), some (.int (x1 + ((-1) : Int32)))] [] (cw (km κ) cs I J W) (fun _ => rfl) (tt_F [some (.ref 97), some (.int (x1 + ((-1) : Int32)))] (And.intro rfl (And.intro rfl trivial)) (k1 (x1 + ((-1) : Int32)) I _ h))) (fun h =>
  tt_F [none, some (.int x1)] (And.intro rfl trivial) (tl_157_2  x1 I _ h))))
theorem tn_157_1 {d : Nat} {κ : KT} {cs : Nat × Nat} {J : Nat → Nat → Int64} {W : Nat} : ∀ (n : Nat) (x1 : Int32) (I : (Nat → Nat → Int32)) (r : Int32), fx (fun _ _ => none) (bd_157_1 ) n x1 I = some r → tt (d + 1) me_157 bk_157_1 [some (.ref 97), some (.int x1)] [] (cw (km κ) cs I J W) (.inl (some (.int r))) (cw (km κ) cs I J W)
  | 0 => fun _ _ _ h => nomatch h
  | n + 1 => fun x1 I r h => tb_157_1  (fx _ (bd_157_1 ) n) (tn_157_1  n) x1 I r h
theorem tl_157_1 {d : Nat} {κ : KT} {cs : Nat × Nat} {J : Nat → Nat → Int64} {W : Nat} (x1 : Int32) (I : (Nat → Nat → Int32)) (r : Int32) (h : lb_157_1  x1 I = some r) : tt (d + 1) me_157 bk_157_1 [some (.ref 97), some (.int x1)] [] (cw (km κ) cs I J W) (.inl (some (.int r))) (cw (km κ) cs I J W) := tn_157_1  FU x1 I r h
theorem m_157 {d : Nat} {κ : KT} {cs : Nat × Nat} {J : Nat → Nat → Int64} {W : Nat} {I : (Nat → Nat → Int32)} {r : Int32} (h : f_157  I = some r) : tm (d + 1) 157 [.ref 97] (cw (km κ) cs I J W) (.inl (some (.int r))) (cw (km κ) cs I J W) :=
  tm_of me_157 rfl (Nat.le_of_ble_eq_true rfl) (
  tt_J (L1 := bk_157_1) 4 [some (.ref 97), some (.int ((I 97 30) - (1 : Int32)))] [] (cw (km κ) cs I J W) (fun _ => rfl) (tt_F [some (.ref 97), some (.int ((I 97 30) - (1 : Int32)))] (And.intro rfl (And.intro rfl trivial)) (tl_157_1  ((I 97 30) - (1 : Int32)) I _ h)))
/- 158 -/
def f_158 (I : (Nat → Nat → Int32)) (J : (Nat → Nat → Int64)) : Option ((Nat → Nat → Int32) × (Nat → Nat → Int64)) :=
  ((f_152 (0 : Int32) I).bind fun q1 => (let I2 := up q1 97 30 ((q1 97 30) - (1 : Int32))
  (let I3 := up I2 97 31 ((I2 97 31) - (1 : Int32))
  ((f_140  I3 J).bind fun q4 => (some (q4.1, q4.2))))))
theorem m_158 {d : Nat} {κ : KT} {cs : Nat × Nat} {W : Nat} {I : (Nat → Nat → Int32)} {J : (Nat → Nat → Int64)} {r : ((Nat → Nat → Int32) × (Nat → Nat → Int64))} (h : f_158  I J = some r) : tm (d + 2) 158 [.ref 97] (cw (km κ) cs I J W) (.inl none) (cw (km κ) cs r.1 r.2 W) :=
  tm_of me_158 rfl (Nat.le_of_ble_eq_true rfl) (
  tt_C (L1 := (bk_158_0.drop 3)) 3 [some (.ref 97)] [] (cw (km κ) cs I J W) h (fun _ => rfl) (fun _ e => m_152 (d := d) e) fun q1 h =>
  let I2 := up q1 97 30 ((q1 97 30) - (1 : Int32))
  let I3 := up I2 97 31 ((I2 97 31) - (1 : Int32))
  tt_J (L1 := (bk_158_0.drop 15)) 11 [some (.ref 97)] [] (cw (km κ) cs I3 J W) (fun _ => rfl) (
  tt_C (L1 := (bk_158_0.drop 17)) 2 [some (.ref 97)] [] (cw (km κ) cs I3 J W) h (fun _ => rfl) (fun _ e => m_140 (d := d) e) fun q4 h =>
  tt_R 1 (fun r => (.inl none)) (fun r => (cw (km κ) cs r.1 r.2 W)) h (fun _ => rfl)))
