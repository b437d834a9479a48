/-! functions, by wip/whole/sy.py -/
/- 172 -/
def lb_172_18 (s0 : Int32) (I : (Nat → Nat → Int32)) : Option (Int32 × (Nat → Nat → Int32)) :=
  (some (s0, I))
def lb_172_15 (c2 : Int32 → Int32 → Int32 → Int32 → (Nat → Nat → Int32) → Option (Int32 × (Nat → Nat → Int32))) (x1 : Int32) (x2 : Int32) (x3 : Int32) (x4 : Int32) (I : (Nat → Nat → Int32)) : Option (Int32 × (Nat → Nat → Int32)) :=
  (c2 x1 x2 x3 x4 I)
def lb_172_10 (c2 : Int32 → Int32 → Int32 → Int32 → (Nat → Nat → Int32) → Option (Int32 × (Nat → Nat → Int32))) (x1 : Int32) (x2 : Int32) (x3 : Int32) (x4 : Int32) (s1 : Int32) (s2 : Int32) (I : (Nat → Nat → Int32)) : Option (Int32 × (Nat → Nat → Int32)) :=
  (if ex_in s1 650 then let I1 := up I 115 (s1).toNatClampNeg s2
  (lb_172_15 c2 x1 x2 (x3 + (1 : Int32)) (x4 + (1 : Int32)) I1) else none)
def lb_172_3 (c2 : Int32 → Int32 → Int32 → Int32 → (Nat → Nat → Int32) → Option (Int32 × (Nat → Nat → Int32))) (x1 : Int32) (x2 : Int32) (x3 : Int32) (x4 : Int32) (x5 : Int32) (I : (Nat → Nat → Int32)) : Option (Int32 × (Nat → Nat → Int32)) :=
  (if ex_in x4 1300 then (if x5 = (1 : Int32) then (lb_172_10 c2 x1 x2 x3 x4 x3 (I 101 (x4).toNatClampNeg) I) else (if (I 101 (x4).toNatClampNeg) = 0 then (lb_172_10 c2 x1 x2 x3 x4 x3 x1 I) else (if (I 101 (x4).toNatClampNeg) = (1 : Int32) then (lb_172_10 c2 x1 x2 x3 x4 x3 (I 97 5) I) else (if (I 101 (x4).toNatClampNeg) = (2 : Int32) then (lb_172_10 c2 x1 x2 x3 x4 x3 (I 97 2) I) else (if (I 101 (x4).toNatClampNeg) = (3 : Int32) then (lb_172_10 c2 x1 x2 x3 x4 x3 (I 97 1) I) else (if (I 101 (x4).toNatClampNeg) = (4 : Int32) then (lb_172_10 c2 x1 x2 x3 x4 x3 x2 I) else (if ex_in x2 6 then (lb_172_10 c2 x1 x2 x3 x4 x3 (I 112 (x2).toNatClampNeg) I) else none))))))) else none)
def lb_172_13 (c2 : Int32 → Int32 → Int32 → Int32 → (Nat → Nat → Int32) → Option (Int32 × (Nat → Nat → Int32))) (x1 : Int32) (x2 : Int32) (x3 : Int32) (x4 : Int32) (s1 : Int32) (s2 : Int32) (I : (Nat → Nat → Int32)) : Option (Int32 × (Nat → Nat → Int32)) :=
  (if ex_in s1 650 then let I4 := up I 115 (s1).toNatClampNeg s2
  (lb_172_15 c2 x1 x2 x3 x4 I4) else none)
def bd_172_2 (c2 : Int32 → Int32 → Int32 → Int32 → (Nat → Nat → Int32) → Option (Int32 × (Nat → Nat → Int32))) (x1 : Int32) (x2 : Int32) (x3 : Int32) (x4 : Int32) (I : (Nat → Nat → Int32)) : Option (Int32 × (Nat → Nat → Int32)) :=
  (if ex_in x4 1300 then (if (I 101 (x4).toNatClampNeg) = 0 then (if ex_in (0 : Int32) 650 then (if (I 97 2) = 0 then none else (if ((I 115 ((0 : Int32)).toNatClampNeg) - (I 115 ((0 : Int32)).toNatClampNeg) / (I 97 2) * (I 97 2)) < 0 then (lb_172_18  (((I 115 ((0 : Int32)).toNatClampNeg) - (I 115 ((0 : Int32)).toNatClampNeg) / (I 97 2) * (I 97 2)) + (I 97 2)) I) else (lb_172_18  ((I 115 ((0 : Int32)).toNatClampNeg) - (I 115 ((0 : Int32)).toNatClampNeg) / (I 97 2) * (I 97 2)) I))) else none) else (if ex_in x4 1300 then (if (I 101 (x4).toNatClampNeg) = (1 : Int32) then (lb_172_3 c2 x1 x2 x3 (x4 + (1 : Int32)) (I 101 (x4).toNatClampNeg) I) else (if (I 101 (x4).toNatClampNeg) = (2 : Int32) then (lb_172_3 c2 x1 x2 x3 (x4 + (1 : Int32)) (I 101 (x4).toNatClampNeg) I) else (if (I 101 (x4).toNatClampNeg) = (3 : Int32) then (if ex_in (x3 - (1 : Int32)) 650 then (if (I 115 ((x3 - (1 : Int32))).toNatClampNeg) = 0 then (lb_172_13 c2 x1 x2 x3 (x4 + (1 : Int32)) (x3 - (1 : Int32)) (1 : Int32) I) else (lb_172_13 c2 x1 x2 x3 (x4 + (1 : Int32)) (x3 - (1 : Int32)) (0 : Int32) I)) else none) else (if ex_in ((x3 + ((-1) : Int32)) - (1 : Int32)) 650 then (if ex_in (x3 + ((-1) : Int32)) 650 then ((f_171 (I 101 (x4).toNatClampNeg) (I 115 (((x3 + ((-1) : Int32)) - (1 : Int32))).toNatClampNeg) (I 115 ((x3 + ((-1) : Int32))).toNatClampNeg) ).bind fun q2 => (if ex_in ((x3 + ((-1) : Int32)) - (1 : Int32)) 650 then let I3 := up I 115 (((x3 + ((-1) : Int32)) - (1 : Int32))).toNatClampNeg q2
  (lb_172_15 c2 x1 x2 (x3 + ((-1) : Int32)) (x4 + (1 : Int32)) I3) else none)) else none) else none)))) else none)) else none)
def lb_172_2 : Int32 → Int32 → Int32 → Int32 → (Nat → Nat → Int32) → Option (Int32 × (Nat → Nat → Int32)) := fx (fun _ _ _ _ _ => none) (bd_172_2 ) FU
def f_172 (x1 : Int32) (x2 : Int32) (I : (Nat → Nat → Int32)) : Option (Int32 × (Nat → Nat → Int32)) :=
  (if (I 97 3) = 0 then (if (I 97 2) = 0 then none else (some ((((I 97 2) / (2 : Int32)) - ((I 97 2) / (2 : Int32)) / (I 97 2) * (I 97 2)), I))) else (if ex_in x1 8 then (lb_172_2  x1 x2 (0 : Int32) (I 100 (x1).toNatClampNeg) I) else none))
theorem tl_172_18 {d : Nat} {κ : KT} {cs : Nat × Nat} {J : Nat → Nat → Int64} {W : Nat} (s0 : Int32) (I : (Nat → Nat → Int32)) (r : (Int32 × (Nat → Nat → Int32))) (h : lb_172_18  s0 I = some r) : tt (d + 1) me_172 bk_172_18 [none, none, none, none, none, none, none] [.int s0] (cw (km κ) cs I J W) (.inl (some (.int r.1))) (cw (km κ) cs r.2 J W) :=
  tt_R 1 (fun r => (.inl (some (.int r.1)))) (fun r => (cw (km κ) cs r.2 J W)) h (fun _ => rfl)
theorem tl_172_15 {d : Nat} {κ : KT} {cs : Nat × Nat} {J : Nat → Nat → Int64} {W : Nat} (c2 : Int32 → Int32 → Int32 → Int32 → (Nat → Nat → Int32) → Option (Int32 × (Nat → Nat → Int32))) (k2 : ∀ (x1 : Int32) (x2 : Int32) (x3 : Int32) (x4 : Int32) (I : (Nat → Nat → Int32)) (r : (Int32 × (Nat → Nat → Int32))), c2 x1 x2 x3 x4 I = some r → tt (d + 1) me_172 bk_172_2 [some (.ref 97), some (.int x1), some (.int x2), some (.int x3), some (.int x4), none, none] [] (cw (km κ) cs I J W) (.inl (some (.int r.1))) (cw (km κ) cs r.2 J W)) (x1 : Int32) (x2 : Int32) (x3 : Int32) (x4 : Int32) (I : (Nat → Nat → Int32)) (r : (Int32 × (Nat → Nat → Int32))) (h : lb_172_15 c2 x1 x2 x3 x4 I = some r) : tt (d + 1) me_172 bk_172_15 [some (.ref 97), some (.int x1), some (.int x2), some (.int x3), some (.int x4), none, none] [] (cw (km κ) cs I J W) (.inl (some (.int r.1))) (cw (km κ) cs r.2 J W) :=
  tt_J (L1 := bk_172_2) 0 [some (.ref 97), some (.int x1), some (.int x2), some (.int x3), some (.int x4), none, none] [] (cw (km κ) cs I J W) (fun _ => rfl) (tt_F [some (.ref 97), some (.int x1), some (.int x2), some (.int x3), some (.int x4), none, none] (And.intro rfl (And.intro rfl (And.intro rfl (And.intro rfl (And.intro rfl trivial))))) (k2 x1 x2 x3 x4 I _ h))
theorem tl_172_10 {d : Nat} {κ : KT} {cs : Nat × Nat} {J : Nat → Nat → Int64} {W : Nat} (c2 : Int32 → Int32 → Int32 → Int32 → (Nat → Nat → Int32) → Option (Int32 × (Nat → Nat → Int32))) (k2 : ∀ (x1 : Int32) (x2 : Int32) (x3 : Int32) (x4 : Int32) (I : (Nat → Nat → Int32)) (r : (Int32 × (Nat → Nat → Int32))), c2 x1 x2 x3 x4 I = some r → tt (d + 1) me_172 bk_172_2 [some (.ref 97), some (.int x1), some (.int x2), some (.int x3), some (.int x4), none, none] [] (cw (km κ) cs I J W) (.inl (some (.int r.1))) (cw (km κ) cs r.2 J W)) (x1 : Int32) (x2 : Int32) (x3 : Int32) (x4 : Int32) (s1 : Int32) (s2 : Int32) (I : (Nat → Nat → Int32)) (r : (Int32 × (Nat → Nat → Int32))) (h : lb_172_10 c2 x1 x2 x3 x4 s1 s2 I = some r) : tt (d + 1) me_172 bk_172_10 [some (.ref 97), some (.int x1), some (.int x2), some (.int x3), some (.int x4), none, none] [.int s2, .int s1, .ref 115] (cw (km κ) cs I J W) (.inl (some (.int r.1))) (cw (km κ) cs r.2 J W) :=
  let I1 := up I 115 (s1).toNatClampNeg s2
  tt_Wi rfl (Nat.le_of_ble_eq_true rfl) h fun h =>
  tt_J (L1 := bk_172_15) 2 [some (.ref 97), some (.int x1), some (.int x2), some (.int (x3 + (1 : Int32))), some (.int (x4 + (1 : Int32))), none, none] [] (cw (km κ) cs I1 J W) (fun _ => rfl) (tt_F [some (.ref 97), some (.int x1), some (.int x2), some (.int (x3 + (1 : Int32))), some (.int (x4 + (1 : Int32))), none, none] (And.intro rfl (And.intro rfl (And.intro rfl (And.intro rfl (And.intro rfl trivial))))) (tl_172_15 c2 k2 x1 x2 (x3 + (1 : Int32)) (x4 + (1 : Int32)) I1 _ h))
theorem tl_172_3 {d : Nat} {κ : KT} {cs : Nat × Nat} {J : Nat → Nat → Int64} {W : Nat} (c2 : Int32 → Int32 → Int32 → Int32 → (Nat → Nat → Int32) → Option (Int32 × (Nat → Nat → Int32))) (k2 : ∀ (x1 : Int32) (x2 : Int32) (x3 : Int32) (x4 : Int32) (I : (Nat → Nat → Int32)) (r : (Int32 × (Nat → Nat → Int32))), c2 x1 x2 x3 x4 I = some r → tt (d + 1) me_172 bk_172_2 [some (.ref 97), some (.int x1), some (.int x2), some (.int x3), some (.int x4), none, none] [] (cw (km κ) cs I J W) (.inl (some (.int r.1))) (cw (km κ) cs r.2 J W)) (x1 : Int32) (x2 : Int32) (x3 : Int32) (x4 : Int32) (x5 : Int32) (I : (Nat → Nat → Int32)) (r : (Int32 × (Nat → Nat → Int32))) (h : lb_172_3 c2 x1 x2 x3 x4 x5 I = some r) : tt (d + 1) me_172 bk_172_3 [some (.ref 97), some (.int x1), some (.int x2), some (.int x3), some (.int x4), some (.int x5), none] [] (cw (km κ) cs I J W) (.inl (some (.int r.1))) (cw (km κ) cs r.2 J W) :=
  tt_J (L1 := (bk_172_3.drop 3)) 2 [some (.ref 97), some (.int x1), some (.int x2), some (.int x3), some (.int x4), some (.int x5), none] [.int x4, .ref 101] (cw (km κ) cs I J W) (fun _ => rfl) (
  tt_Qi rfl h fun h =>
  tt_I (L1 := (bk_172_3.drop 11)) (L2 := bk_172_4) 7 [some (.ref 97), some (.int x1), some (.int x2), some (.int x3), some (.int x4), some (.int x5), some (.int (I 101 (x4).toNatClampNeg))] [.int x3, .ref 115] (cw (km κ) cs I J W) h (fun _ => rfl) (fun h =>
  tt_J (L1 := bk_172_10) 1 [some (.ref 97), some (.int x1), some (.int x2), some (.int x3), some (.int x4), some (.int x5), some (.int (I 101 (x4).toNatClampNeg))] [.int (I 101 (x4).toNatClampNeg), .int x3, .ref 115] (cw (km κ) cs I J W) (fun _ => rfl) (tt_F [some (.ref 97), some (.int x1), some (.int x2), some (.int x3), some (.int x4), none, none] (And.intro rfl (And.intro rfl (And.intro rfl (And.intro rfl (And.intro rfl trivial))))) (tl_172_10 c2 k2 x1 x2 x3 x4 x3 (I 101 (x4).toNatClampNeg) I _ h))) (fun h =>
  tt_I (L1 := (bk_172_4.drop 2)) (L2 := bk_172_5) 2 [some (.ref 97), some (.int x1), some (.int x2), some (.int x3), some (.int x4), some (.int x5), some (.int (I 101 (x4).toNatClampNeg))] [.int x3, .ref 115] (cw (km κ) cs I J W) h (fun _ => rfl) (fun h =>
  tt_J (L1 := bk_172_10) 1 [some (.ref 97), some (.int x1), some (.int x2), some (.int x3), some (.int x4), some (.int x5), some (.int (I 101 (x4).toNatClampNeg))] [.int x1, .int x3, .ref 115] (cw (km κ) cs I J W) (fun _ => rfl) (tt_F [some (.ref 97), some (.int x1), some (.int x2), some (.int x3), some (.int x4), none, none] (And.intro rfl (And.intro rfl (And.intro rfl (And.intro rfl (And.intro rfl trivial))))) (tl_172_10 c2 k2 x1 x2 x3 x4 x3 x1 I _ h))) (fun h =>
  tt_I (L1 := (bk_172_5.drop 3)) (L2 := bk_172_6) 3 [some (.ref 97), some (.int x1), some (.int x2), some (.int x3), some (.int x4), some (.int x5), some (.int (I 101 (x4).toNatClampNeg))] [.int x3, .ref 115] (cw (km κ) cs I J W) h (fun _ => rfl) (fun h =>
  tt_J (L1 := bk_172_10) 2 [some (.ref 97), some (.int x1), some (.int x2), some (.int x3), some (.int x4), some (.int x5), some (.int (I 101 (x4).toNatClampNeg))] [.int (I 97 5), .int x3, .ref 115] (cw (km κ) cs I J W) (fun _ => rfl) (tt_F [some (.ref 97), some (.int x1), some (.int x2), some (.int x3), some (.int x4), none, none] (And.intro rfl (And.intro rfl (And.intro rfl (And.intro rfl (And.intro rfl trivial))))) (tl_172_10 c2 k2 x1 x2 x3 x4 x3 (I 97 5) I _ h))) (fun h =>
  tt_I (L1 := (bk_172_6.drop 3)) (L2 := bk_172_7) 3 [some (.ref 97), some (.int x1), some (.int x2), some (.int x3), some (.int x4), some (.int x5), some (.int (I 101 (x4).toNatClampNeg))] [.int x3, .ref 115] (cw (km κ) cs I J W) h (fun _ => rfl) (fun h =>
  tt_J (L1 := bk_172_10) 2 [some (.ref 97), some (.int x1), some (.int x2), some (.int x3), some (.int x4), some (.int x5), some (.int (I 101 (x4).toNatClampNeg))] [.int (I 97 2), .int x3, .ref 115] (cw (km κ) cs I J W) (fun _ => rfl) (tt_F [some (.ref 97), some (.int x1), some (.int x2), some (.int x3), some (.int x4), none, none] (And.intro rfl (And.intro rfl (And.intro rfl (And.intro rfl (And.intro rfl trivial))))) (tl_172_10 c2 k2 x1 x2 x3 x4 x3 (I 97 2) I _ h))) (fun h =>
  tt_I (L1 := (bk_172_7.drop 3)) (L2 := bk_172_8) 3 [some (.ref 97), some (.int x1), some (.int x2), some (.int x3), some (.int x4), some (.int x5), some (.int (I 101 (x4).toNatClampNeg))] [.int x3, .ref 115] (cw (km κ) cs I J W) h (fun _ => rfl) (fun h =>
  tt_J (L1 := bk_172_10) 2 [some (.ref 97), some (.int x1), some (.int x2), some (.int x3), some (.int x4), some (.int x5), some (.int (I 101 (x4).toNatClampNeg))] [.int (I 97 1), .int x3, .ref 115] (cw (km κ) cs I J W) (fun _ => rfl) (tt_F [some (.ref 97), some (.int x1), some (.int x2), some (.int x3), some (.int x4), none, none] (And.intro rfl (And.intro rfl (And.intro rfl (And.intro rfl (And.intro rfl trivial))))) (tl_172_10 c2 k2 x1 x2 x3 x4 x3 (I 97 1) I _ h))) (fun h =>
  tt_I (L1 := (bk_172_8.drop 3)) (L2 := bk_172_9) 3 [some (.ref 97), some (.int x1), some (.int x2), some (.int x3), some (.int x4), some (.int x5), some (.int (I 101 (x4).toNatClampNeg))] [.int x3, .ref 115] (cw (km κ) cs I J W) h (fun _ => rfl) (fun h =>
  tt_J (L1 := bk_172_10) 1 [some (.ref 97), some (.int x1), some (.int x2), some (.int x3), some (.int x4), some (.int x5), some (.int (I 101 (x4).toNatClampNeg))] [.int x2, .int x3, .ref 115] (cw (km κ) cs I J W) (fun _ => rfl) (tt_F [some (.ref 97), some (.int x1), some (.int x2), some (.int x3), some (.int x4), none, none] (And.intro rfl (And.intro rfl (And.intro rfl (And.intro rfl (And.intro rfl trivial))))) (tl_172_10 c2 k2 x1 x2 x3 x4 x3 x2 I _ h))) (fun h =>
  tt_J (L1 := (bk_172_9.drop 3)) 2 [some (.ref 97), some (.int x1), some (.int x2), some (.int x3), some (.int x4), some (.int x5), some (.int (I 101 (x4).toNatClampNeg))] [.int x2, .ref 112, .int x3, .ref 115] (cw (km κ) cs I J W) (fun _ => rfl) (
  tt_Qi rfl h fun h =>
  tt_F [some (.ref 97), some (.int x1), some (.int x2), some (.int x3), some (.int x4), none, none] (And.intro rfl (And.intro rfl (And.intro rfl (And.intro rfl (And.intro rfl trivial))))) (tl_172_10 c2 k2 x1 x2 x3 x4 x3 (I 112 (x2).toNatClampNeg) I _ h)))))))))
theorem tl_172_13 {d : Nat} {κ : KT} {cs : Nat × Nat} {J : Nat → Nat → Int64} {W : Nat} (c2 : Int32 → Int32 → Int32 → Int32 → (Nat → Nat → Int32) → Option (Int32 × (Nat → Nat → Int32))) (k2 : ∀ (x1 : Int32) (x2 : Int32) (x3 : Int32) (x4 : Int32) (I : (Nat → Nat → Int32)) (r : (Int32 × (Nat → Nat → Int32))), c2 x1 x2 x3 x4 I = some r → tt (d + 1) me_172 bk_172_2 [some (.ref 97), some (.int x1), some (.int x2), some (.int x3), some (.int x4), none, none] [] (cw (km κ) cs I J W) (.inl (some (.int r.1))) (cw (km κ) cs r.2 J W)) (x1 : Int32) (x2 : Int32) (x3 : Int32) (x4 : Int32) (s1 : Int32) (s2 : Int32) (I : (Nat → Nat → Int32)) (r : (Int32 × (Nat → Nat → Int32))) (h : lb_172_13 c2 x1 x2 x3 x4 s1 s2 I = some r) : tt (d + 1) me_172 bk_172_13 [some (.ref 97), some (.int x1), some (.int x2), some (.int x3), some (.int x4), none, none] [.int s2, .int s1, .ref 115] (cw (km κ) cs I J W) (.inl (some (.int r.1))) (cw (km κ) cs r.2 J W) :=
  let I4 := up I 115 (s1).toNatClampNeg s2
  tt_Wi rfl (Nat.le_of_ble_eq_true rfl) h fun h =>
  tt_J (L1 := bk_172_15) 0 [some (.ref 97), some (.int x1), some (.int x2), some (.int x3), some (.int x4), none, none] [] (cw (km κ) cs I4 J W) (fun _ => rfl) (tt_F [some (.ref 97), some (.int x1), some (.int x2), some (.int x3), some (.int x4), none, none] (And.intro rfl (And.intro rfl (And.intro rfl (And.intro rfl (And.intro rfl trivial))))) (tl_172_15 c2 k2 x1 x2 x3 x4 I4 _ h))
theorem tb_172_2 {d : Nat} {κ : KT} {cs : Nat × Nat} {J : Nat → Nat → Int64} {W : Nat} (c2 : Int32 → Int32 → Int32 → Int32 → (Nat → Nat → Int32) → Option (Int32 × (Nat → Nat → Int32))) (k2 : ∀ (x1 : Int32) (x2 : Int32) (x3 : Int32) (x4 : Int32) (I : (Nat → Nat → Int32)) (r : (Int32 × (Nat → Nat → Int32))), c2 x1 x2 x3 x4 I = some r → tt (d + 1) me_172 bk_172_2 [some (.ref 97), some (.int x1), some (.int x2), some (.int x3), some (.int x4), none, none] [] (cw (km κ) cs I J W) (.inl (some (.int r.1))) (cw (km κ) cs r.2 J W)) (x1 : Int32) (x2 : Int32) (x3 : Int32) (x4 : Int32) (I : (Nat → Nat → Int32)) (r : (Int32 × (Nat → Nat → Int32))) (h : bd_172_2  c2 x1 x2 x3 x4 I = some r) : tt (d + 1) me_172 bk_172_2 [some (.ref 97), some (.int x1), some (.int x2), some (.int x3), some (.int x4), none, none] [] (cw (km κ) cs I J W) (.inl (some (.int r.1))) (cw (km κ) cs r.2 J W) :=
  tt_J (L1 := (bk_172_2.drop 3)) 2 [some (.ref 97), some (.int x1), some (.int x2), some (.int x3), some (.int x4), none, none] [.int x4, .ref 101] (cw (km κ) cs I J W) (fun _ => rfl) (
  tt_Qi rfl h fun h =>
  tt_I (L1 := bk_172_16) (L2 := (bk_172_2.drop 5)) 1 [some (.ref 97), some (.int x1), some (.int x2), some (.int x3), some (.int x4), none, none] [] (cw (km κ) cs I J W) h (fun _ => rfl) (fun h =>
  tt_J (L1 := (bk_172_16.drop 3)) 2 [some (.ref 97), some (.int x1), some (.int x2), some (.int x3), some (.int x4), none, none] [.int (0 : Int32), .ref 115] (cw (km κ) cs I J W) (fun _ => rfl) (
  tt_Qi rfl h fun h =>
  tt_J (L1 := (bk_172_16.drop 6)) 1 [some (.ref 97), some (.int x1), some (.int x2), some (.int x3), some (.int x4), none, none] [.int (I 97 2), .int (I 115 ((0 : Int32)).toNatClampNeg)] (cw (km κ) cs I J W) (fun _ => rfl) (
  tt_Dr h fun h =>
  tt_I (L1 := (bk_172_16.drop 10)) (L2 := bk_172_17) 3 [some (.ref 97), some (.int x1), some (.int x2), some (.int x3), some (.int x4), some (.int ((I 115 ((0 : Int32)).toNatClampNeg) - (I 115 ((0 : Int32)).toNatClampNeg) / (I 97 2) * (I 97 2))), none] [] (cw (km κ) cs I J W) h (fun _ => rfl) (fun h =>
  tt_J (L1 := bk_172_18) 4 [some (.ref 97), some (.int x1), some (.int x2), some (.int x3), some (.int x4), some (.int ((I 115 ((0 : Int32)).toNatClampNeg) - (I 115 ((0 : Int32)).toNatClampNeg) / (I 97 2) * (I 97 2))), none] [.int (((I 115 ((0 : Int32)).toNatClampNeg) - (I 115 ((0 : Int32)).toNatClampNeg) / (I 97 2) * (I 97 2)) + (I 97 2))] (cw (km κ) cs I J W) (fun _ => rfl) (tt_F [none, none, none, none, none, none, none] trivial (tl_172_18  (((I 115 ((0 : Int32)).toNatClampNeg) - (I 115 ((0 : Int32)).toNatClampNeg) / (I 97 2) * (I 97 2)) + (I 97 2)) I _ h))) (fun h =>
  tt_J (L1 := bk_172_18) 0 [some (.ref 97), some (.int x1), some (.int x2), some (.int x3), some (.int x4), some (.int ((I 115 ((0 : Int32)).toNatClampNeg) - (I 115 ((0 : Int32)).toNatClampNeg) / (I 97 2) * (I 97 2))), none] [.int ((I 115 ((0 : Int32)).toNatClampNeg) - (I 115 ((0 : Int32)).toNatClampNeg) / (I 97 2) * (I 97 2))] (cw (km κ) cs I J W) (fun _ => rfl) (tt_F [none, none, none, none, none, none, none] trivial (tl_172_18  ((I 115 ((0 : Int32)).toNatClampNeg) - (I 115 ((0 : Int32)).toNatClampNeg) / (I 97 2) * (I 97 2)) I _ h)))))) (fun h =>
  tt_J (L1 := (bk_172_2.drop 8)) 2 [some (.ref 97), some (.int x1), some (.int x2), some (.int x3), some (.int x4), none, none] [.int x4, .ref 101] (cw (km κ) cs I J W) (fun _ => rfl) (
  tt_Qi rfl h fun h =>
  tt_I (L1 := bk_172_3) (L2 := (bk_172_2.drop 14)) 5 [some (.ref 97), some (.int x1), some (.int x2), some (.int x3), some (.int (x4 + (1 : Int32))), some (.int (I 101 (x4).toNatClampNeg)), none] [] (cw (km κ) cs I J W) h (fun _ => rfl) (fun h =>
  tt_F [some (.ref 97), some (.int x1), some (.int x2), some (.int x3), some (.int (x4 + (1 : Int32))), some (.int (I 101 (x4).toNatClampNeg)), none] (And.intro rfl (And.intro rfl (And.intro rfl (And.intro rfl (And.intro rfl (And.intro rfl trivial)))))) (tl_172_3 c2 k2 x1 x2 x3 (x4 + (1 : Int32)) (I 101 (x4).toNatClampNeg) I _ h)) (fun h =>
  tt_I (L1 := bk_172_3) (L2 := bk_172_11) 3 [some (.ref 97), some (.int x1), some (.int x2), some (.int x3), some (.int (x4 + (1 : Int32))), some (.int (I 101 (x4).toNatClampNeg)), none] [] (cw (km κ) cs I J W) h (fun _ => rfl) (fun h =>
  tt_F [some (.ref 97), some (.int x1), some (.int x2), some (.int x3), some (.int (x4 + (1 : Int32))), some (.int (I 101 (x4).toNatClampNeg)), none] (And.intro rfl (And.intro rfl (And.intro rfl (And.intro rfl (And.intro rfl (And.intro rfl trivial)))))) (tl_172_3 c2 k2 x1 x2 x3 (x4 + (1 : Int32)) (I 101 (x4).toNatClampNeg) I _ h)) (fun h =>
  tt_I (L1 := (bk_172_11.drop 3)) (L2 := bk_172_14) 3 [some (.ref 97), some (.int x1), some (.int x2), some (.int x3), some (.int (x4 + (1 : Int32))), some (.int (I 101 (x4).toNatClampNeg)), none] [] (cw (km κ) cs I J W) h (fun _ => rfl) (fun h =>
  tt_J (L1 := (bk_172_11.drop 13)) 9 [some (.ref 97), some (.int x1), some (.int x2), some (.int x3), some (.int (x4 + (1 : Int32))), some (.int (I 101 (x4).toNatClampNeg)), none] [.int (x3 - (1 : Int32)), .ref 115, .int (x3 - (1 : Int32)), .ref 115] (cw (km κ) cs I J W) (fun _ => rfl) (
  tt_Qi rfl h fun h =>
  tt_I (L1 := (bk_172_11.drop 15)) (L2 := bk_172_12) 1 [some (.ref 97), some (.int x1), some (.int x2), some (.int x3), some (.int (x4 + (1 : Int32))), some (.int (I 101 (x4).toNatClampNeg)), none] [.int (x3 - (1 : Int32)), .ref 115] (cw (km κ) cs I J W) h (fun _ => rfl) (fun h =>
  tt_J (L1 := bk_172_13) 1 [some (.ref 97), some (.int x1), some (.int x2), some (.int x3), some (.int (x4 + (1 : Int32))), some (.int (I 101 (x4).toNatClampNeg)), none] [.int (1 : Int32), .int (x3 - (1 : Int32)), .ref 115] (cw (km κ) cs I J W) (fun _ => rfl) (tt_F [some (.ref 97), some (.int x1), some (.int x2), some (.int x3), some (.int (x4 + (1 : Int32))), none, none] (And.intro rfl (And.intro rfl (And.intro rfl (And.intro rfl (And.intro rfl trivial))))) (tl_172_13 c2 k2 x1 x2 x3 (x4 + (1 : Int32)) (x3 - (1 : Int32)) (1 : Int32) I _ h))) (fun h =>
  tt_J (L1 := bk_172_13) 0 [some (.ref 97), some (.int x1), some (.int x2), some (.int x3), some (.int (x4 + (1 : Int32))), some (.int (I 101 (x4).toNatClampNeg)), none] [.int (0 : Int32), .int (x3 - (1 : Int32)), .ref 115] (cw (km κ) cs I J W) (fun _ => rfl) (tt_F [some (.ref 97), some (.int x1), some (.int x2), some (.int x3), some (.int (x4 + (1 : Int32))), none, none] (And.intro rfl (And.intro rfl (And.intro rfl (And.intro rfl (And.intro rfl trivial))))) (tl_172_13 c2 k2 x1 x2 x3 (x4 + (1 : Int32)) (x3 - (1 : Int32)) (0 : Int32) I _ h))))) (fun h =>
  tt_J (L1 := (bk_172_14.drop 12)) 11 [some (.ref 97), some (.int x1), some (.int x2), some (.int (x3 + ((-1) : Int32))), some (.int (x4 + (1 : Int32))), some (.int (I 101 (x4).toNatClampNeg)), none] [.int ((x3 + ((-1) : Int32)) - (1 : Int32)), .ref 115, .int (I 101 (x4).toNatClampNeg), .int ((x3 + ((-1) : Int32)) - (1 : Int32)), .ref 115] (cw (km κ) cs I J W) (fun _ => rfl) (
  tt_Qi rfl h fun h =>
  tt_J (L1 := (bk_172_14.drop 16)) 2 [some (.ref 97), some (.int x1), some (.int x2), some (.int (x3 + ((-1) : Int32))), some (.int (x4 + (1 : Int32))), some (.int (I 101 (x4).toNatClampNeg)), none] [.int (x3 + ((-1) : Int32)), .ref 115, .int (I 115 (((x3 + ((-1) : Int32)) - (1 : Int32))).toNatClampNeg), .int (I 101 (x4).toNatClampNeg), .int ((x3 + ((-1) : Int32)) - (1 : Int32)), .ref 115] (cw (km κ) cs I J W) (fun _ => rfl) (
  tt_Qi rfl h fun h =>
  tt_C (L1 := (bk_172_14.drop 18)) 1 [some (.ref 97), some (.int x1), some (.int x2), some (.int (x3 + ((-1) : Int32))), some (.int (x4 + (1 : Int32))), some (.int (I 101 (x4).toNatClampNeg)), none] [.int ((x3 + ((-1) : Int32)) - (1 : Int32)), .ref 115] (cw (km κ) cs I J W) h (fun _ => rfl) (fun _ e => m_171 (d := d) e) fun q2 h =>
  let I3 := up I 115 (((x3 + ((-1) : Int32)) - (1 : Int32))).toNatClampNeg q2
  tt_Wi rfl (Nat.le_of_ble_eq_true rfl) h fun h =>
  tt_F [some (.ref 97), some (.int x1), some (.int x2), some (.int (x3 + ((-1) : Int32))), some (.int (x4 + (1 : Int32))), none, none] (And.intro rfl (And.intro rfl (And.intro rfl (And.intro rfl (And.intro rfl trivial))))) (tl_172_15 c2 k2 x1 x2 (x3 + ((-1) : Int32)) (x4 + (1 : Int32)) I3 _ h)))))))))
theorem tn_172_2 {d : Nat} {κ : KT} {cs : Nat × Nat} {J : Nat → Nat → Int64} {W : Nat} : ∀ (n : Nat) (x1 : Int32) (x2 : Int32) (x3 : Int32) (x4 : Int32) (I : (Nat → Nat → Int32)) (r : (Int32 × (Nat → Nat → Int32))), fx (fun _ _ _ _ _ => none) (bd_172_2 ) n x1 x2 x3 x4 I = some r → tt (d + 1) me_172 bk_172_2 [some (.ref 97), some (.int x1), some (.int x2), some (.int x3), some (.int x4), none, none] [] (cw (km κ) cs I J W) (.inl (some (.int r.1))) (cw (km κ) cs r.2 J W)
  | 0 => fun _ _ _ _ _ _ h => nomatch h
  | n + 1 => fun x1 x2 x3 x4 I r h => tb_172_2  (fx _ (bd_172_2 ) n) (tn_172_2  n) x1 x2 x3 x4 I r h
theorem tl_172_2 {d : Nat} {κ : KT} {cs : Nat × Nat} {J : Nat → Nat → Int64} {W : Nat} (x1 : Int32) (x2 : Int32) (x3 : Int32) (x4 : Int32) (I : (Nat → Nat → Int32)) (r : (Int32 × (Nat → Nat → Int32))) (h : lb_172_2  x1 x2 x3 x4 I = some r) : tt (d + 1) me_172 bk_172_2 [some (.ref 97), some (.int x1), some (.int x2), some (.int x3), some (.int x4), none, none] [] (cw (km κ) cs I J W) (.inl (some (.int r.1))) (cw (km κ) cs r.2 J W) := tn_172_2  FU x1 x2 x3 x4 I r h
theorem m_172 {d : Nat} {κ : KT} {cs : Nat × Nat} {J : Nat → Nat → Int64} {W : Nat} {x1 : Int32} {x2 : Int32} {I : (Nat → Nat → Int32)} {r : (Int32 × (Nat → Nat → Int32))} (h : f_172 x1 x2 I = some r) : tm (d + 1) 172 [.ref 97, .int x1, .int x2] (cw (km κ) cs I J W) (.inl (some (.int r.1))) (cw (km κ) cs r.2 J W) :=
  tm_of me_172 rfl (Nat.le_of_ble_eq_true rfl) (
  tt_I (L1 := (bk_172_0.drop 3)) (L2 := bk_172_1) 3 [some (.ref 97), some (.int x1), some (.int x2), none, none, none, none] [] (cw (km κ) cs I J W) h (fun _ => rfl) (fun h =>
  tt_J (L1 := (bk_172_0.drop 9)) 5 [some (.ref 97), some (.int x1), some (.int x2), none, none, none, none] [.int (I 97 2), .int ((I 97 2) / (2 : Int32))] (cw (km κ) cs I J W) (fun _ => rfl) (
  tt_Dr h fun h =>
  tt_R 1 (fun r => (.inl (some (.int r.1)))) (fun r => (cw (km κ) cs r.2 J W)) h (fun _ => rfl))) (fun h =>
  tt_J (L1 := (bk_172_1.drop 5)) 4 [some (.ref 97), some (.int x1), some (.int x2), some (.int (0 : Int32)), none, none, none] [.int x1, .ref 100] (cw (km κ) cs I J W) (fun _ => rfl) (
  tt_Qi rfl h fun h =>
  tt_J (L1 := bk_172_2) 0 [some (.ref 97), some (.int x1), some (.int x2), some (.int (0 : Int32)), some (.int (I 100 (x1).toNatClampNeg)), none, none] [] (cw (km κ) cs I J W) (fun _ => rfl) (tt_F [some (.ref 97), some (.int x1), some (.int x2), some (.int (0 : Int32)), some (.int (I 100 (x1).toNatClampNeg)), none, none] (And.intro rfl (And.intro rfl (And.intro rfl (And.intro rfl (And.intro rfl trivial))))) (tl_172_2  x1 x2 (0 : Int32) (I 100 (x1).toNatClampNeg) I _ h)))))
/- 173 -/
def lb_173_2 (s0 : Int32) (I : (Nat → Nat → Int32)) : Option Int32 :=
  (some s0)
def f_173 (x1 : Int32) (I : (Nat → Nat → Int32)) : Option Int32 :=
  (if (I 97 3) = 0 then (lb_173_2  (0 : Int32) I) else (if (I 97 3) = 0 then none else (if ex_in (x1 - x1 / (I 97 3) * (I 97 3)) 8 then (lb_173_2  (I 98 ((x1 - x1 / (I 97 3) * (I 97 3))).toNatClampNeg) I) else none)))
theorem tl_173_2 {d : Nat} {κ : KT} {cs : Nat × Nat} {J : Nat → Nat → Int64} {W : Nat} (s0 : Int32) (I : (Nat → Nat → Int32)) (r : Int32) (h : lb_173_2  s0 I = some r) : tt d me_173 bk_173_2 [none, none] [.int s0] (cw (km κ) cs I J W) (.inl (some (.int r))) (cw (km κ) cs I J W) :=
  tt_R 1 (fun r => (.inl (some (.int r)))) (fun r => (cw (km κ) cs I J W)) h (fun _ => rfl)
theorem m_173 {d : Nat} {κ : KT} {cs : Nat × Nat} {J : Nat → Nat → Int64} {W : Nat} {x1 : Int32} {I : (Nat → Nat → Int32)} {r : Int32} (h : f_173 x1 I = some r) : tm d 173 [.ref 97, .int x1] (cw (km κ) cs I J W) (.inl (some (.int r))) (cw (km κ) cs I J W) :=
  tm_of me_173 rfl (Nat.le_of_ble_eq_true rfl) (
  tt_I (L1 := (bk_173_0.drop 3)) (L2 := bk_173_1) 3 [some (.ref 97), some (.int x1)] [] (cw (km κ) cs I J W) h (fun _ => rfl) (fun h =>
  tt_J (L1 := bk_173_2) 1 [some (.ref 97), some (.int x1)] [.int (0 : Int32)] (cw (km κ) cs I J W) (fun _ => rfl) (tt_F [none, none] trivial (tl_173_2  (0 : Int32) I _ h))) (fun h =>
  tt_J (L1 := (bk_173_1.drop 5)) 4 [some (.ref 97), some (.int x1)] [.int (I 97 3), .int x1, .ref 98] (cw (km κ) cs I J W) (fun _ => rfl) (
  tt_Dr h fun h =>
  tt_Qi rfl h fun h =>
  tt_F [none, none] trivial (tl_173_2  (I 98 ((x1 - x1 / (I 97 3) * (I 97 3))).toNatClampNeg) I _ h))))
/- 174 -/
def lb_174_2 (s0 : Int32) (I : (Nat → Nat → Int32)) : Option Int32 :=
  (some s0)
def f_174 (x1 : Int32) (I : (Nat → Nat → Int32)) : Option Int32 :=
  (if (I 97 3) = 0 then (lb_174_2  (1 : Int32) I) else (if (I 97 3) = 0 then none else (if ex_in (x1 - x1 / (I 97 3) * (I 97 3)) 8 then (lb_174_2  (I 99 ((x1 - x1 / (I 97 3) * (I 97 3))).toNatClampNeg) I) else none)))
theorem tl_174_2 {d : Nat} {κ : KT} {cs : Nat × Nat} {J : Nat → Nat → Int64} {W : Nat} (s0 : Int32) (I : (Nat → Nat → Int32)) (r : Int32) (h : lb_174_2  s0 I = some r) : tt d me_174 bk_174_2 [none, none] [.int s0] (cw (km κ) cs I J W) (.inl (some (.int r))) (cw (km κ) cs I J W) :=
  tt_R 1 (fun r => (.inl (some (.int r)))) (fun r => (cw (km κ) cs I J W)) h (fun _ => rfl)
theorem m_174 {d : Nat} {κ : KT} {cs : Nat × Nat} {J : Nat → Nat → Int64} {W : Nat} {x1 : Int32} {I : (Nat → Nat → Int32)} {r : Int32} (h : f_174 x1 I = some r) : tm d 174 [.ref 97, .int x1] (cw (km κ) cs I J W) (.inl (some (.int r))) (cw (km κ) cs I J W) :=
  tm_of me_174 rfl (Nat.le_of_ble_eq_true rfl) (
  tt_I (L1 := (bk_174_0.drop 3)) (L2 := bk_174_1) 3 [some (.ref 97), some (.int x1)] [] (cw (km κ) cs I J W) h (fun _ => rfl) (fun h =>
  tt_J (L1 := bk_174_2) 1 [some (.ref 97), some (.int x1)] [.int (1 : Int32)] (cw (km κ) cs I J W) (fun _ => rfl) (tt_F [none, none] trivial (tl_174_2  (1 : Int32) I _ h))) (fun h =>
  tt_J (L1 := (bk_174_1.drop 5)) 4 [some (.ref 97), some (.int x1)] [.int (I 97 3), .int x1, .ref 99] (cw (km κ) cs I J W) (fun _ => rfl) (
  tt_Dr h fun h =>
  tt_Qi rfl h fun h =>
  tt_F [none, none] trivial (tl_174_2  (I 99 ((x1 - x1 / (I 97 3) * (I 97 3))).toNatClampNeg) I _ h))))
/- 175 -/
def lb_175_2 (s0 : Int32) (I : (Nat → Nat → Int32)) : Option Int32 :=
  (some s0)
def f_175 (x1 : Int32) (I : (Nat → Nat → Int32)) : Option Int32 :=
  (if (I 97 3) = 0 then (lb_175_2  (0 : Int32) I) else (if (I 97 3) = 0 then none else (lb_175_2  (x1 - x1 / (I 97 3) * (I 97 3)) I)))
theorem tl_175_2 {d : Nat} {κ : KT} {cs : Nat × Nat} {J : Nat → Nat → Int64} {W : Nat} (s0 : Int32) (I : (Nat → Nat → Int32)) (r : Int32) (h : lb_175_2  s0 I = some r) : tt d me_175 bk_175_2 [none, none] [.int s0] (cw (km κ) cs I J W) (.inl (some (.int r))) (cw (km κ) cs I J W) :=
  tt_R 1 (fun r => (.inl (some (.int r)))) (fun r => (cw (km κ) cs I J W)) h (fun _ => rfl)
theorem m_175 {d : Nat} {κ : KT} {cs : Nat × Nat} {J : Nat → Nat → Int64} {W : Nat} {x1 : Int32} {I : (Nat → Nat → Int32)} {r : Int32} (h : f_175 x1 I = some r) : tm d 175 [.ref 97, .int x1] (cw (km κ) cs I J W) (.inl (some (.int r))) (cw (km κ) cs I J W) :=
  tm_of me_175 rfl (Nat.le_of_ble_eq_true rfl) (
  tt_I (L1 := (bk_175_0.drop 3)) (L2 := bk_175_1) 3 [some (.ref 97), some (.int x1)] [] (cw (km κ) cs I J W) h (fun _ => rfl) (fun h =>
  tt_J (L1 := bk_175_2) 1 [some (.ref 97), some (.int x1)] [.int (0 : Int32)] (cw (km κ) cs I J W) (fun _ => rfl) (tt_F [none, none] trivial (tl_175_2  (0 : Int32) I _ h))) (fun h =>
  tt_J (L1 := (bk_175_1.drop 3)) 2 [some (.ref 97), some (.int x1)] [.int (I 97 3), .int x1] (cw (km κ) cs I J W) (fun _ => rfl) (
  tt_Dr h fun h =>
  tt_F [none, none] trivial (tl_175_2  (x1 - x1 / (I 97 3) * (I 97 3)) I _ h))))
/- 176 -/
def lb_176_2 (s1 : Int32) (I : (Nat → Nat → Int32)) : Option (Int32 × (Nat → Nat → Int32)) :=
  ((f_132 s1 (1 : Int32) I).bind fun q1 => (if (q1.1 = 0 ∨ q1.1 = 1) then some (q1.1, q1.2) else none))
def lb_176_1 (I : (Nat → Nat → Int32)) : Option (Int32 × (Nat → Nat → Int32)) :=
  (lb_176_2  (0 : Int32) I)
def f_176 (x1 : Int32) (I : (Nat → Nat → Int32)) : Option (Int32 × (Nat → Nat → Int32)) :=
  (if x1 < 0 then (lb_176_1   I) else (if x1 < (I 97 1) then (lb_176_2  (1 : Int32) I) else (lb_176_1   I)))
theorem tl_176_2 {d : Nat} {κ : KT} {cs : Nat × Nat} {J : Nat → Nat → Int64} {W : Nat} (s1 : Int32) (I : (Nat → Nat → Int32)) (r : (Int32 × (Nat → Nat → Int32))) (h : lb_176_2  s1 I = some r) : tt (d + 1) me_176 bk_176_2 [none, none] [.int s1, .ref 97] (cw (km κ) cs I J W) (.inl (some (.int r.1))) (cw (km κ) cs r.2 J W) :=
  tt_C (L1 := (bk_176_2.drop 2)) 2 [none, none] [] (cw (km κ) cs I J W) h (fun _ => rfl) (fun _ e => m_132 (d := d) e) fun q1 h =>
  tt_B 1 (fun r => (.inl (some (.int r.1)))) (fun r => (cw (km κ) cs r.2 J W)) h (fun q => Or.inr (Or.inl ⟨rfl, q⟩)) (fun _ => rfl)
theorem tl_176_1 {d : Nat} {κ : KT} {cs : Nat × Nat} {J : Nat → Nat → Int64} {W : Nat} (I : (Nat → Nat → Int32)) (r : (Int32 × (Nat → Nat → Int32))) (h : lb_176_1   I = some r) : tt (d + 1) me_176 bk_176_1 [none, none] [.ref 97] (cw (km κ) cs I J W) (.inl (some (.int r.1))) (cw (km κ) cs r.2 J W) :=
  tt_J (L1 := bk_176_2) 0 [none, none] [.int (0 : Int32), .ref 97] (cw (km κ) cs I J W) (fun _ => rfl) (tt_F [none, none] trivial (tl_176_2  (0 : Int32) I _ h))
theorem m_176 {d : Nat} {κ : KT} {cs : Nat × Nat} {J : Nat → Nat → Int64} {W : Nat} {x1 : Int32} {I : (Nat → Nat → Int32)} {r : (Int32 × (Nat → Nat → Int32))} (h : f_176 x1 I = some r) : tm (d + 1) 176 [.ref 97, .int x1] (cw (km κ) cs I J W) (.inl (some (.int r.1))) (cw (km κ) cs r.2 J W) :=
  tm_of me_176 rfl (Nat.le_of_ble_eq_true rfl) (
  tt_I (L1 := bk_176_1) (L2 := (bk_176_0.drop 3)) 3 [some (.ref 97), some (.int x1)] [.ref 97] (cw (km κ) cs I J W) h (fun _ => rfl) (fun h =>
  tt_F [none, none] trivial (tl_176_1   I _ h)) (fun h =>
  tt_I (L1 := (bk_176_0.drop 7)) (L2 := bk_176_1) 4 [some (.ref 97), some (.int x1)] [.ref 97] (cw (km κ) cs I J W) h (fun _ => rfl) (fun h =>
  tt_J (L1 := bk_176_2) 1 [some (.ref 97), some (.int x1)] [.int (1 : Int32), .ref 97] (cw (km κ) cs I J W) (fun _ => rfl) (tt_F [none, none] trivial (tl_176_2  (1 : Int32) I _ h))) (fun h =>
  tt_F [none, none] trivial (tl_176_1   I _ h))))
/- 177 -/
def lb_177_2 (x2 : Int32) (s1 : Int32) (I : (Nat → Nat → Int32)) : Option (Int32 × (Nat → Nat → Int32)) :=
  ((f_132 s1 x2 I).bind fun q1 => (if (q1.1 = 0 ∨ q1.1 = 1) then some (q1.1, q1.2) else none))
def lb_177_1 (x2 : Int32) (I : (Nat → Nat → Int32)) : Option (Int32 × (Nat → Nat → Int32)) :=
  (lb_177_2  x2 (0 : Int32) I)
def f_177 (x1 : Int32) (x2 : Int32) (I : (Nat → Nat → Int32)) : Option (Int32 × (Nat → Nat → Int32)) :=
  (if x1 < 0 then (lb_177_1  x2 I) else (if x1 < (I 97 2) then (lb_177_2  x2 (1 : Int32) I) else (lb_177_1  x2 I)))
theorem tl_177_2 {d : Nat} {κ : KT} {cs : Nat × Nat} {J : Nat → Nat → Int64} {W : Nat} (x2 : Int32) (s1 : Int32) (I : (Nat → Nat → Int32)) (r : (Int32 × (Nat → Nat → Int32))) (h : lb_177_2  x2 s1 I = some r) : tt (d + 1) me_177 bk_177_2 [none, none, some (.int x2)] [.int s1, .ref 97] (cw (km κ) cs I J W) (.inl (some (.int r.1))) (cw (km κ) cs r.2 J W) :=
  tt_C (L1 := (bk_177_2.drop 2)) 2 [none, none, some (.int x2)] [] (cw (km κ) cs I J W) h (fun _ => rfl) (fun _ e => m_132 (d := d) e) fun q1 h =>
  tt_B 1 (fun r => (.inl (some (.int r.1)))) (fun r => (cw (km κ) cs r.2 J W)) h (fun q => Or.inr (Or.inl ⟨rfl, q⟩)) (fun _ => rfl)
theorem tl_177_1 {d : Nat} {κ : KT} {cs : Nat × Nat} {J : Nat → Nat → Int64} {W : Nat} (x2 : Int32) (I : (Nat → Nat → Int32)) (r : (Int32 × (Nat → Nat → Int32))) (h : lb_177_1  x2 I = some r) : tt (d + 1) me_177 bk_177_1 [none, none, some (.int x2)] [.ref 97] (cw (km κ) cs I J W) (.inl (some (.int r.1))) (cw (km κ) cs r.2 J W) :=
  tt_J (L1 := bk_177_2) 0 [none, none, some (.int x2)] [.int (0 : Int32), .ref 97] (cw (km κ) cs I J W) (fun _ => rfl) (tt_F [none, none, some (.int x2)] (And.intro rfl trivial) (tl_177_2  x2 (0 : Int32) I _ h))
theorem m_177 {d : Nat} {κ : KT} {cs : Nat × Nat} {J : Nat → Nat → Int64} {W : Nat} {x1 : Int32} {x2 : Int32} {I : (Nat → Nat → Int32)} {r : (Int32 × (Nat → Nat → Int32))} (h : f_177 x1 x2 I = some r) : tm (d + 1) 177 [.ref 97, .int x1, .int x2] (cw (km κ) cs I J W) (.inl (some (.int r.1))) (cw (km κ) cs r.2 J W) :=
  tm_of me_177 rfl (Nat.le_of_ble_eq_true rfl) (
  tt_I (L1 := bk_177_1) (L2 := (bk_177_0.drop 3)) 3 [some (.ref 97), some (.int x1), some (.int x2)] [.ref 97] (cw (km κ) cs I J W) h (fun _ => rfl) (fun h =>
  tt_F [none, none, some (.int x2)] (And.intro rfl trivial) (tl_177_1  x2 I _ h)) (fun h =>
  tt_I (L1 := (bk_177_0.drop 7)) (L2 := bk_177_1) 4 [some (.ref 97), some (.int x1), some (.int x2)] [.ref 97] (cw (km κ) cs I J W) h (fun _ => rfl) (fun h =>
  tt_J (L1 := bk_177_2) 1 [some (.ref 97), some (.int x1), some (.int x2)] [.int (1 : Int32), .ref 97] (cw (km κ) cs I J W) (fun _ => rfl) (tt_F [none, none, some (.int x2)] (And.intro rfl trivial) (tl_177_2  x2 (1 : Int32) I _ h))) (fun h =>
  tt_F [none, none, some (.int x2)] (And.intro rfl trivial) (tl_177_1  x2 I _ h))))
/- 178 -/
def f_178 (x1 : Int32) (x2 : Int32) (I : (Nat → Nat → Int32)) : Option (Int32 × (Nat → Nat → Int32)) :=
  ((f_133 x1 (0 : Int32) (60 : Int32) ).bind fun q1 => ((f_132 q1 x2 I).bind fun q2 => (if (q2.1 = 0 ∨ q2.1 = 1) then some (q2.1, q2.2) else none)))
theorem m_178 {d : Nat} {κ : KT} {cs : Nat × Nat} {J : Nat → Nat → Int64} {W : Nat} {x1 : Int32} {x2 : Int32} {I : (Nat → Nat → Int32)} {r : (Int32 × (Nat → Nat → Int32))} (h : f_178 x1 x2 I = some r) : tm (d + 1) 178 [.ref 97, .int x1, .int x2] (cw (km κ) cs I J W) (.inl (some (.int r.1))) (cw (km κ) cs r.2 J W) :=
  tm_of me_178 rfl (Nat.le_of_ble_eq_true rfl) (
  tt_C (L1 := (bk_178_0.drop 5)) 5 [some (.ref 97), some (.int x1), some (.int x2)] [.ref 97] (cw (km κ) cs I J W) h (fun _ => rfl) (fun _ e => m_133 (d := d) e) fun q1 h =>
  tt_C (L1 := (bk_178_0.drop 7)) 2 [some (.ref 97), some (.int x1), some (.int x2)] [] (cw (km κ) cs I J W) h (fun _ => rfl) (fun _ e => m_132 (d := d) e) fun q2 h =>
  tt_B 1 (fun r => (.inl (some (.int r.1)))) (fun r => (cw (km κ) cs r.2 J W)) h (fun q => Or.inr (Or.inl ⟨rfl, q⟩)) (fun _ => rfl))
/- 179 -/
def lb_179_3 (I : (Nat → Nat → Int32)) : Option (Int32 × (Nat → Nat → Int32)) :=
  (some ((0 : Int32), I))
def lb_179_7 (s0 : Int32) (I : (Nat → Nat → Int32)) : Option (Int32 × (Nat → Nat → Int32)) :=
  (some (s0, I))
def lb_179_2 (x1 : Int32) (x2 : Int32) (x3 : Int32) (s1 : Int32) (I : (Nat → Nat → Int32)) : Option (Int32 × (Nat → Nat → Int32)) :=
  ((f_132 s1 (1 : Int32) I).bind fun q2 => (if q2.1 = 0 then (lb_179_3   q2.2) else ((f_177 x2 (1 : Int32) q2.2).bind fun q3 => (if q3.1 = 0 then (lb_179_3   q3.2) else ((f_133 x3 (0 : Int32) (2 : Int32) ).bind fun q4 => ((f_132 q4 (1 : Int32) q3.2).bind fun q5 => (if q5.1 = 0 then (lb_179_3   q5.2) else (if ex_in x1 8 then (if ex_in x1 8 then ((f_167 (q5.2 98 (x1).toNatClampNeg) (q5.2 99 (x1).toNatClampNeg) q5.2).bind fun q6 => (if x3 = 0 then (if ex_in x1 8 then (lb_179_7  (q6 98 (x1).toNatClampNeg) q6) else none) else (if x3 = (1 : Int32) then (if ex_in x1 8 then (lb_179_7  (q6 99 (x1).toNatClampNeg) q6) else none) else ((f_172 x1 x2 q6).bind fun q7 => (lb_179_7  q7.1 q7.2))))) else none) else none))))))))
def lb_179_1 (x1 : Int32) (x2 : Int32) (x3 : Int32) (I : (Nat → Nat → Int32)) : Option (Int32 × (Nat → Nat → Int32)) :=
  (lb_179_2  x1 x2 x3 (0 : Int32) I)
def f_179 (x1 : Int32) (x2 : Int32) (x3 : Int32) (I : (Nat → Nat → Int32)) : Option (Int32 × (Nat → Nat → Int32)) :=
  (let I1 := up I 97 0 (0 : Int32)
  (if x1 < 0 then (lb_179_1  x1 x2 x3 I1) else (if x1 < (I1 97 3) then (lb_179_2  x1 x2 x3 (1 : Int32) I1) else (lb_179_1  x1 x2 x3 I1))))
theorem tl_179_3 {d : Nat} {κ : KT} {cs : Nat × Nat} {J : Nat → Nat → Int64} {W : Nat} (I : (Nat → Nat → Int32)) (r : (Int32 × (Nat → Nat → Int32))) (h : lb_179_3   I = some r) : tt (d + 2) me_179 bk_179_3 [none, none, none, none] [] (cw (km κ) cs I J W) (.inl (some (.int r.1))) (cw (km κ) cs r.2 J W) :=
  tt_R 2 (fun r => (.inl (some (.int r.1)))) (fun r => (cw (km κ) cs r.2 J W)) h (fun _ => rfl)
theorem tl_179_7 {d : Nat} {κ : KT} {cs : Nat × Nat} {J : Nat → Nat → Int64} {W : Nat} (s0 : Int32) (I : (Nat → Nat → Int32)) (r : (Int32 × (Nat → Nat → Int32))) (h : lb_179_7  s0 I = some r) : tt (d + 2) me_179 bk_179_7 [none, none, none, none] [.int s0] (cw (km κ) cs I J W) (.inl (some (.int r.1))) (cw (km κ) cs r.2 J W) :=
  tt_R 1 (fun r => (.inl (some (.int r.1)))) (fun r => (cw (km κ) cs r.2 J W)) h (fun _ => rfl)
theorem tl_179_2 {d : Nat} {κ : KT} {cs : Nat × Nat} {J : Nat → Nat → Int64} {W : Nat} (x1 : Int32) (x2 : Int32) (x3 : Int32) (s1 : Int32) (I : (Nat → Nat → Int32)) (r : (Int32 × (Nat → Nat → Int32))) (h : lb_179_2  x1 x2 x3 s1 I = some r) : tt (d + 2) me_179 bk_179_2 [some (.ref 97), some (.int x1), some (.int x2), some (.int x3)] [.int s1, .ref 97] (cw (km κ) cs I J W) (.inl (some (.int r.1))) (cw (km κ) cs r.2 J W) :=
  tt_C (L1 := (bk_179_2.drop 2)) 2 [some (.ref 97), some (.int x1), some (.int x2), some (.int x3)] [] (cw (km κ) cs I J W) h (fun _ => rfl) (fun _ e => m_132 (d := d + 1) e) fun q2 h =>
  tt_I (L1 := bk_179_3) (L2 := (bk_179_2.drop 3)) 1 [some (.ref 97), some (.int x1), some (.int x2), some (.int x3)] [] (cw (km κ) cs q2.2 J W) h (fun _ => rfl) (fun h =>
  tt_F [none, none, none, none] trivial (tl_179_3   q2.2 _ h)) (fun h =>
  tt_C (L1 := (bk_179_2.drop 7)) 4 [some (.ref 97), some (.int x1), some (.int x2), some (.int x3)] [] (cw (km κ) cs q2.2 J W) h (fun _ => rfl) (fun _ e => m_177 (d := d) e) fun q3 h =>
  tt_I (L1 := bk_179_3) (L2 := (bk_179_2.drop 8)) 1 [some (.ref 97), some (.int x1), some (.int x2), some (.int x3)] [] (cw (km κ) cs q3.2 J W) h (fun _ => rfl) (fun h =>
  tt_F [none, none, none, none] trivial (tl_179_3   q3.2 _ h)) (fun h =>
  tt_C (L1 := (bk_179_2.drop 13)) 5 [some (.ref 97), some (.int x1), some (.int x2), some (.int x3)] [.ref 97] (cw (km κ) cs q3.2 J W) h (fun _ => rfl) (fun _ e => m_133 (d := d + 1) e) fun q4 h =>
  tt_C (L1 := (bk_179_2.drop 15)) 2 [some (.ref 97), some (.int x1), some (.int x2), some (.int x3)] [] (cw (km κ) cs q3.2 J W) h (fun _ => rfl) (fun _ e => m_132 (d := d + 1) e) fun q5 h =>
  tt_I (L1 := bk_179_3) (L2 := bk_179_4) 1 [some (.ref 97), some (.int x1), some (.int x2), some (.int x3)] [] (cw (km κ) cs q5.2 J W) h (fun _ => rfl) (fun h =>
  tt_F [none, none, none, none] trivial (tl_179_3   q5.2 _ h)) (fun h =>
  tt_J (L1 := (bk_179_4.drop 4)) 3 [some (.ref 97), some (.int x1), some (.int x2), some (.int x3)] [.int x1, .ref 98, .ref 97] (cw (km κ) cs q5.2 J W) (fun _ => rfl) (
  tt_Qi rfl h fun h =>
  tt_J (L1 := (bk_179_4.drop 8)) 2 [some (.ref 97), some (.int x1), some (.int x2), some (.int x3)] [.int x1, .ref 99, .int (q5.2 98 (x1).toNatClampNeg), .ref 97] (cw (km κ) cs q5.2 J W) (fun _ => rfl) (
  tt_Qi rfl h fun h =>
  tt_C (L1 := (bk_179_4.drop 10)) 1 [some (.ref 97), some (.int x1), some (.int x2), some (.int x3)] [] (cw (km κ) cs q5.2 J W) h (fun _ => rfl) (fun _ e => m_167 (d := d) e) fun q6 h =>
  tt_I (L1 := (bk_179_4.drop 12)) (L2 := bk_179_5) 2 [some (.ref 97), some (.int x1), some (.int x2), some (.int x3)] [] (cw (km κ) cs q6 J W) h (fun _ => rfl) (fun h =>
  tt_J (L1 := (bk_179_4.drop 15)) 2 [some (.ref 97), some (.int x1), some (.int x2), some (.int x3)] [.int x1, .ref 98] (cw (km κ) cs q6 J W) (fun _ => rfl) (
  tt_Qi rfl h fun h =>
  tt_J (L1 := bk_179_7) 0 [some (.ref 97), some (.int x1), some (.int x2), some (.int x3)] [.int (q6 98 (x1).toNatClampNeg)] (cw (km κ) cs q6 J W) (fun _ => rfl) (tt_F [none, none, none, none] trivial (tl_179_7  (q6 98 (x1).toNatClampNeg) q6 _ h)))) (fun h =>
  tt_I (L1 := (bk_179_5.drop 3)) (L2 := bk_179_6) 3 [some (.ref 97), some (.int x1), some (.int x2), some (.int x3)] [] (cw (km κ) cs q6 J W) h (fun _ => rfl) (fun h =>
  tt_J (L1 := (bk_179_5.drop 6)) 2 [some (.ref 97), some (.int x1), some (.int x2), some (.int x3)] [.int x1, .ref 99] (cw (km κ) cs q6 J W) (fun _ => rfl) (
  tt_Qi rfl h fun h =>
  tt_J (L1 := bk_179_7) 0 [some (.ref 97), some (.int x1), some (.int x2), some (.int x3)] [.int (q6 99 (x1).toNatClampNeg)] (cw (km κ) cs q6 J W) (fun _ => rfl) (tt_F [none, none, none, none] trivial (tl_179_7  (q6 99 (x1).toNatClampNeg) q6 _ h)))) (fun h =>
  tt_C (L1 := bk_179_7) 4 [some (.ref 97), some (.int x1), some (.int x2), some (.int x3)] [] (cw (km κ) cs q6 J W) h (fun _ => rfl) (fun _ e => m_172 (d := d) e) fun q7 h =>
  tt_F [none, none, none, none] trivial (tl_179_7  q7.1 q7.2 _ h))))))))
theorem tl_179_1 {d : Nat} {κ : KT} {cs : Nat × Nat} {J : Nat → Nat → Int64} {W : Nat} (x1 : Int32) (x2 : Int32) (x3 : Int32) (I : (Nat → Nat → Int32)) (r : (Int32 × (Nat → Nat → Int32))) (h : lb_179_1  x1 x2 x3 I = some r) : tt (d + 2) me_179 bk_179_1 [some (.ref 97), some (.int x1), some (.int x2), some (.int x3)] [.ref 97] (cw (km κ) cs I J W) (.inl (some (.int r.1))) (cw (km κ) cs r.2 J W) :=
  tt_J (L1 := bk_179_2) 0 [some (.ref 97), some (.int x1), some (.int x2), some (.int x3)] [.int (0 : Int32), .ref 97] (cw (km κ) cs I J W) (fun _ => rfl) (tt_F [some (.ref 97), some (.int x1), some (.int x2), some (.int x3)] (And.intro rfl (And.intro rfl (And.intro rfl (And.intro rfl trivial)))) (tl_179_2  x1 x2 x3 (0 : Int32) I _ h))
theorem m_179 {d : Nat} {κ : KT} {cs : Nat × Nat} {J : Nat → Nat → Int64} {W : Nat} {x1 : Int32} {x2 : Int32} {x3 : Int32} {I : (Nat → Nat → Int32)} {r : (Int32 × (Nat → Nat → Int32))} (h : f_179 x1 x2 x3 I = some r) : tm (d + 2) 179 [.ref 97, .int x1, .int x2, .int x3] (cw (km κ) cs I J W) (.inl (some (.int r.1))) (cw (km κ) cs r.2 J W) :=
  tm_of me_179 rfl (Nat.le_of_ble_eq_true rfl) (
  let I1 := up I 97 0 (0 : Int32)
  tt_I (L1 := bk_179_1) (L2 := (bk_179_0.drop 6)) 6 [some (.ref 97), some (.int x1), some (.int x2), some (.int x3)] [.ref 97] (cw (km κ) cs I1 J W) h (fun _ => rfl) (fun h =>
  tt_F [some (.ref 97), some (.int x1), some (.int x2), some (.int x3)] (And.intro rfl (And.intro rfl (And.intro rfl (And.intro rfl trivial)))) (tl_179_1  x1 x2 x3 I1 _ h)) (fun h =>
  tt_I (L1 := (bk_179_0.drop 10)) (L2 := bk_179_1) 4 [some (.ref 97), some (.int x1), some (.int x2), some (.int x3)] [.ref 97] (cw (km κ) cs I1 J W) h (fun _ => rfl) (fun h =>
  tt_J (L1 := bk_179_2) 1 [some (.ref 97), some (.int x1), some (.int x2), some (.int x3)] [.int (1 : Int32), .ref 97] (cw (km κ) cs I1 J W) (fun _ => rfl) (tt_F [some (.ref 97), some (.int x1), some (.int x2), some (.int x3)] (And.intro rfl (And.intro rfl (And.intro rfl (And.intro rfl trivial)))) (tl_179_2  x1 x2 x3 (1 : Int32) I1 _ h))) (fun h =>
  tt_F [some (.ref 97), some (.int x1), some (.int x2), some (.int x3)] (And.intro rfl (And.intro rfl (And.intro rfl (And.intro rfl trivial)))) (tl_179_1  x1 x2 x3 I1 _ h))))
/- 180 -/
def lb_180_3 (I : (Nat → Nat → Int32)) : Option (Int32 × (Nat → Nat → Int32)) :=
  (some ((0 : Int32), I))
def lb_180_2 (x1 : Int32) (x2 : Int32) (x3 : Int32) (s1 : Int32) (I : (Nat → Nat → Int32)) : Option (Int32 × (Nat → Nat → Int32)) :=
  ((f_132 s1 (1 : Int32) I).bind fun q3 => (if q3.1 = 0 then (lb_180_3   q3.2) else ((f_177 x3 (1 : Int32) q3.2).bind fun q4 => (if q4.1 = 0 then (lb_180_3   q4.2) else ((f_173 x2 q4.2).bind fun q5 => ((f_174 x2 q4.2).bind fun q6 => ((f_167 q5 q6 q4.2).bind fun q7 => ((f_175 x2 q7).bind fun q8 => ((f_172 q8 x3 q7).bind fun q9 => ((f_168 x3 x3 q9.1 q9.2).bind fun q10 => ((f_170 x1 q10).bind fun q11 => (some (q11, q10)))))))))))))
def f_180 (x1 : Int32) (x2 : Int32) (x3 : Int32) (I : (Nat → Nat → Int32)) : Option (Int32 × (Nat → Nat → Int32)) :=
  (let I1 := up I 97 0 (0 : Int32)
  ((f_176 x1 I1).bind fun q2 => (if q2.1 = 0 then (lb_180_3   q2.2) else (if x2 < 0 then (lb_180_2  x1 x2 x3 (0 : Int32) q2.2) else (lb_180_2  x1 x2 x3 (1 : Int32) q2.2)))))
theorem tl_180_3 {d : Nat} {κ : KT} {cs : Nat × Nat} {J : Nat → Nat → Int64} {W : Nat} (I : (Nat → Nat → Int32)) (r : (Int32 × (Nat → Nat → Int32))) (h : lb_180_3   I = some r) : tt (d + 2) me_180 bk_180_3 [none, none, none, none] [] (cw (km κ) cs I J W) (.inl (some (.int r.1))) (cw (km κ) cs r.2 J W) :=
  tt_R 2 (fun r => (.inl (some (.int r.1)))) (fun r => (cw (km κ) cs r.2 J W)) h (fun _ => rfl)
theorem tl_180_2 {d : Nat} {κ : KT} {cs : Nat × Nat} {J : Nat → Nat → Int64} {W : Nat} (x1 : Int32) (x2 : Int32) (x3 : Int32) (s1 : Int32) (I : (Nat → Nat → Int32)) (r : (Int32 × (Nat → Nat → Int32))) (h : lb_180_2  x1 x2 x3 s1 I = some r) : tt (d + 2) me_180 bk_180_2 [some (.ref 97), some (.int x1), some (.int x2), some (.int x3)] [.int s1, .ref 97] (cw (km κ) cs I J W) (.inl (some (.int r.1))) (cw (km κ) cs r.2 J W) :=
  tt_C (L1 := (bk_180_2.drop 2)) 2 [some (.ref 97), some (.int x1), some (.int x2), some (.int x3)] [] (cw (km κ) cs I J W) h (fun _ => rfl) (fun _ e => m_132 (d := d + 1) e) fun q3 h =>
  tt_I (L1 := bk_180_3) (L2 := (bk_180_2.drop 3)) 1 [some (.ref 97), some (.int x1), some (.int x2), some (.int x3)] [] (cw (km κ) cs q3.2 J W) h (fun _ => rfl) (fun h =>
  tt_F [none, none, none, none] trivial (tl_180_3   q3.2 _ h)) (fun h =>
  tt_C (L1 := (bk_180_2.drop 7)) 4 [some (.ref 97), some (.int x1), some (.int x2), some (.int x3)] [] (cw (km κ) cs q3.2 J W) h (fun _ => rfl) (fun _ e => m_177 (d := d) e) fun q4 h =>
  tt_I (L1 := bk_180_3) (L2 := bk_180_4) 1 [some (.ref 97), some (.int x1), some (.int x2), some (.int x3)] [] (cw (km κ) cs q4.2 J W) h (fun _ => rfl) (fun h =>
  tt_F [none, none, none, none] trivial (tl_180_3   q4.2 _ h)) (fun h =>
  tt_C (L1 := (bk_180_4.drop 4)) 4 [some (.ref 97), some (.int x1), some (.int x2), some (.int x3)] [.ref 97] (cw (km κ) cs q4.2 J W) h (fun _ => rfl) (fun _ e => m_173 (d := d + 1) e) fun q5 h =>
  tt_C (L1 := (bk_180_4.drop 7)) 3 [some (.ref 97), some (.int x1), some (.int x2), some (.int x3)] [.int q5, .ref 97] (cw (km κ) cs q4.2 J W) h (fun _ => rfl) (fun _ e => m_174 (d := d + 1) e) fun q6 h =>
  tt_C (L1 := (bk_180_4.drop 8)) 1 [some (.ref 97), some (.int x1), some (.int x2), some (.int x3)] [] (cw (km κ) cs q4.2 J W) h (fun _ => rfl) (fun _ e => m_167 (d := d) e) fun q7 h =>
  tt_C (L1 := (bk_180_4.drop 15)) 7 [some (.ref 97), some (.int x1), some (.int x2), some (.int x3)] [.ref 97, .int x3, .int x3, .ref 97] (cw (km κ) cs q7 J W) h (fun _ => rfl) (fun _ e => m_175 (d := d + 1) e) fun q8 h =>
  tt_C (L1 := (bk_180_4.drop 17)) 2 [some (.ref 97), some (.int x1), some (.int x2), some (.int x3)] [.int x3, .int x3, .ref 97] (cw (km κ) cs q7 J W) h (fun _ => rfl) (fun _ e => m_172 (d := d) e) fun q9 h =>
  tt_C (L1 := (bk_180_4.drop 18)) 1 [some (.ref 97), some (.int x1), some (.int x2), some (.int x3)] [] (cw (km κ) cs q9.2 J W) h (fun _ => rfl) (fun _ e => m_168 (d := d) e) fun q10 h =>
  tt_C (L1 := (bk_180_4.drop 21)) 3 [some (.ref 97), some (.int x1), some (.int x2), some (.int x3)] [] (cw (km κ) cs q10 J W) h (fun _ => rfl) (fun _ e => m_170 (d := d + 1) e) fun q11 h =>
  tt_R 1 (fun r => (.inl (some (.int r.1)))) (fun r => (cw (km κ) cs r.2 J W)) h (fun _ => rfl)))
theorem m_180 {d : Nat} {κ : KT} {cs : Nat × Nat} {J : Nat → Nat → Int64} {W : Nat} {x1 : Int32} {x2 : Int32} {x3 : Int32} {I : (Nat → Nat → Int32)} {r : (Int32 × (Nat → Nat → Int32))} (h : f_180 x1 x2 x3 I = some r) : tm (d + 2) 180 [.ref 97, .int x1, .int x2, .int x3] (cw (km κ) cs I J W) (.inl (some (.int r.1))) (cw (km κ) cs r.2 J W) :=
  tm_of me_180 rfl (Nat.le_of_ble_eq_true rfl) (
  let I1 := up I 97 0 (0 : Int32)
  tt_C (L1 := (bk_180_0.drop 6)) 6 [some (.ref 97), some (.int x1), some (.int x2), some (.int x3)] [] (cw (km κ) cs I1 J W) (show ((f_176 x1 I1).bind fun q2 => (if q2.1 = 0 then (lb_180_3   q2.2) else (if x2 < 0 then (lb_180_2  x1 x2 x3 (0 : Int32) q2.2) else (lb_180_2  x1 x2 x3 (1 : Int32) q2.2)))) = some r from h) (fun _ => rfl) (fun _ e => m_176 (d := d) e) fun q2 h =>
  tt_I (L1 := bk_180_3) (L2 := (bk_180_0.drop 7)) 1 [some (.ref 97), some (.int x1), some (.int x2), some (.int x3)] [] (cw (km κ) cs q2.2 J W) h (fun _ => rfl) (fun h =>
  tt_F [none, none, none, none] trivial (tl_180_3   q2.2 _ h)) (fun h =>
  tt_I (L1 := bk_180_1) (L2 := (bk_180_0.drop 10)) 3 [some (.ref 97), some (.int x1), some (.int x2), some (.int x3)] [.ref 97] (cw (km κ) cs q2.2 J W) h (fun _ => rfl) (fun h =>
  tt_J (L1 := bk_180_2) 0 [some (.ref 97), some (.int x1), some (.int x2), some (.int x3)] [.int (0 : Int32), .ref 97] (cw (km κ) cs q2.2 J W) (fun _ => rfl) (tt_F [some (.ref 97), some (.int x1), some (.int x2), some (.int x3)] (And.intro rfl (And.intro rfl (And.intro rfl (And.intro rfl trivial)))) (tl_180_2  x1 x2 x3 (0 : Int32) q2.2 _ h))) (fun h =>
  tt_J (L1 := bk_180_2) 1 [some (.ref 97), some (.int x1), some (.int x2), some (.int x3)] [.int (1 : Int32), .ref 97] (cw (km κ) cs q2.2 J W) (fun _ => rfl) (tt_F [some (.ref 97), some (.int x1), some (.int x2), some (.int x3)] (And.intro rfl (And.intro rfl (And.intro rfl (And.intro rfl trivial)))) (tl_180_2  x1 x2 x3 (1 : Int32) q2.2 _ h)))))
/- 181 -/
def bd_181_8 (c8 : Int32 → (Nat → Nat → Int32) → Option (Nat → Nat → Int32)) (x3 : Int32) (I : (Nat → Nat → Int32)) : Option (Nat → Nat → Int32) :=
  (if x3 < (I 97 1) then (if ex_in x3 60 then (if ex_in (I 116 (x3).toNatClampNeg) 60 then (if ex_in x3 60 then let I4 := up I 116 (x3).toNatClampNeg (I 117 ((I 116 (x3).toNatClampNeg)).toNatClampNeg)
  (c8 (x3 + (1 : Int32)) I4) else none) else none) else none) else (some I))
def lb_181_8 : Int32 → (Nat → Nat → Int32) → Option (Nat → Nat → Int32) := fx (fun _ _ => none) (bd_181_8 ) FU
def lb_181_5 (c4 : Int32 → Int32 → Int32 → Int32 → (Nat → Nat → Int32) → Option (Nat → Nat → Int32)) (x1 : Int32) (x2 : Int32) (x3 : Int32) (x4 : Int32) (I : (Nat → Nat → Int32)) : Option (Nat → Nat → Int32) :=
  (c4 x1 x2 x3 (x4 + (1 : Int32)) I)
def bd_181_4 (c1 : Int32 → Int32 → Int32 → (Nat → Nat → Int32) → Option (Nat → Nat → Int32)) (c4 : Int32 → Int32 → Int32 → Int32 → (Nat → Nat → Int32) → Option (Nat → Nat → Int32)) (x1 : Int32) (x2 : Int32) (x3 : Int32) (x4 : Int32) (I : (Nat → Nat → Int32)) : Option (Nat → Nat → Int32) :=
  (if x4 < (I 97 1) then (if ex_in x4 60 then (if (I 110 (x4).toNatClampNeg) = x3 then ((f_170 x4 I).bind fun q6 => (if ex_in x4 60 then let I7 := up I 117 (x4).toNatClampNeg q6
  (lb_181_5 c4 x1 x2 x3 x4 I7) else none)) else (lb_181_5 c4 x1 x2 x3 x4 I)) else none) else (c1 x1 x2 (x3 + (1 : Int32)) I))
def lb_181_4 (c1 : Int32 → Int32 → Int32 → (Nat → Nat → Int32) → Option (Nat → Nat → Int32)) : Int32 → Int32 → Int32 → Int32 → (Nat → Nat → Int32) → Option (Nat → Nat → Int32) := fx (fun _ _ _ _ _ => none) (bd_181_4 c1) FU
def lb_181_3 (c1 : Int32 → Int32 → Int32 → (Nat → Nat → Int32) → Option (Nat → Nat → Int32)) (x1 : Int32) (x2 : Int32) (x3 : Int32) (s1 : Int32) (s2 : Int32) (s3 : Int32) (I : (Nat → Nat → Int32)) : Option (Nat → Nat → Int32) :=
  ((f_168 s1 s2 s3 I).bind fun q5 => (lb_181_4 c1 x1 x2 x3 (0 : Int32) q5))
def bd_181_1 (c1 : Int32 → Int32 → Int32 → (Nat → Nat → Int32) → Option (Nat → Nat → Int32)) (x1 : Int32) (x2 : Int32) (x3 : Int32) (I : (Nat → Nat → Int32)) : Option (Nat → Nat → Int32) :=
  (if x3 < (I 97 2) then (if x2 = ((-1) : Int32) then ((f_175 x1 I).bind fun q8 => ((f_172 q8 x3 I).bind fun q9 => (lb_181_3 c1 x1 x2 x3 x3 x3 q9.1 q9.2))) else (lb_181_3 c1 x1 x2 x3 x3 x3 x2 I)) else (lb_181_8  (0 : Int32) I))
def lb_181_1 : Int32 → Int32 → Int32 → (Nat → Nat → Int32) → Option (Nat → Nat → Int32) := fx (fun _ _ _ _ => none) (bd_181_1 ) FU
def f_181 (x1 : Int32) (x2 : Int32) (I : (Nat → Nat → Int32)) : Option (Nat → Nat → Int32) :=
  ((f_173 x1 I).bind fun q1 => ((f_174 x1 I).bind fun q2 => ((f_167 q1 q2 I).bind fun q3 => (lb_181_1  x1 x2 (0 : Int32) q3))))
theorem tb_181_8 {d : Nat} {κ : KT} {cs : Nat × Nat} {J : Nat → Nat → Int64} {W : Nat} (c8 : Int32 → (Nat → Nat → Int32) → Option (Nat → Nat → Int32)) (k8 : ∀ (x3 : Int32) (I : (Nat → Nat → Int32)) (r : (Nat → Nat → Int32)), c8 x3 I = some r → tt (d + 2) me_181 bk_181_8 [some (.ref 97), none, none, some (.int x3), none] [] (cw (km κ) cs I J W) (.inl none) (cw (km κ) cs r J W)) (x3 : Int32) (I : (Nat → Nat → Int32)) (r : (Nat → Nat → Int32)) (h : bd_181_8  c8 x3 I = some r) : tt (d + 2) me_181 bk_181_8 [some (.ref 97), none, none, some (.int x3), none] [] (cw (km κ) cs I J W) (.inl none) (cw (km κ) cs r J W) :=
  tt_I (L1 := (bk_181_8.drop 4)) (L2 := bk_181_9) 4 [some (.ref 97), none, none, some (.int x3), none] [] (cw (km κ) cs I J W) h (fun _ => rfl) (fun h =>
  tt_J (L1 := (bk_181_8.drop 12)) 7 [some (.ref 97), none, none, some (.int x3), none] [.int x3, .ref 116, .ref 117, .int x3, .ref 116] (cw (km κ) cs I J W) (fun _ => rfl) (
  tt_Qi rfl h fun h =>
  tt_Qi rfl h fun h =>
  let I4 := up I 116 (x3).toNatClampNeg (I 117 ((I 116 (x3).toNatClampNeg)).toNatClampNeg)
  tt_Wi rfl (Nat.le_of_ble_eq_true rfl) h fun h =>
  tt_J (L1 := bk_181_8) 1 [some (.ref 97), none, none, some (.int (x3 + (1 : Int32))), none] [] (cw (km κ) cs I4 J W) (fun _ => rfl) (tt_F [some (.ref 97), none, none, some (.int (x3 + (1 : Int32))), none] (And.intro rfl (And.intro rfl trivial)) (k8 (x3 + (1 : Int32)) I4 _ h)))) (fun h =>
  tt_R 1 (fun r => (.inl none)) (fun r => (cw (km κ) cs r J W)) h (fun _ => rfl))
theorem tn_181_8 {d : Nat} {κ : KT} {cs : Nat × Nat} {J : Nat → Nat → Int64} {W : Nat} : ∀ (n : Nat) (x3 : Int32) (I : (Nat → Nat → Int32)) (r : (Nat → Nat → Int32)), fx (fun _ _ => none) (bd_181_8 ) n x3 I = some r → tt (d + 2) me_181 bk_181_8 [some (.ref 97), none, none, some (.int x3), none] [] (cw (km κ) cs I J W) (.inl none) (cw (km κ) cs r J W)
  | 0 => fun _ _ _ h => nomatch h
  | n + 1 => fun x3 I r h => tb_181_8  (fx _ (bd_181_8 ) n) (tn_181_8  n) x3 I r h
theorem tl_181_8 {d : Nat} {κ : KT} {cs : Nat × Nat} {J : Nat → Nat → Int64} {W : Nat} (x3 : Int32) (I : (Nat → Nat → Int32)) (r : (Nat → Nat → Int32)) (h : lb_181_8  x3 I = some r) : tt (d + 2) me_181 bk_181_8 [some (.ref 97), none, none, some (.int x3), none] [] (cw (km κ) cs I J W) (.inl none) (cw (km κ) cs r J W) := tn_181_8  FU x3 I r h
theorem tl_181_5 {d : Nat} {κ : KT} {cs : Nat × Nat} {J : Nat → Nat → Int64} {W : Nat} (c4 : Int32 → Int32 → Int32 → Int32 → (Nat → Nat → Int32) → Option (Nat → Nat → Int32)) (k4 : ∀ (x1 : Int32) (x2 : Int32) (x3 : Int32) (x4 : Int32) (I : (Nat → Nat → Int32)) (r : (Nat → Nat → Int32)), c4 x1 x2 x3 x4 I = some r → tt (d + 2) me_181 bk_181_4 [some (.ref 97), some (.int x1), some (.int x2), some (.int x3), some (.int x4)] [] (cw (km κ) cs I J W) (.inl none) (cw (km κ) cs r J W)) (x1 : Int32) (x2 : Int32) (x3 : Int32) (x4 : Int32) (I : (Nat → Nat → Int32)) (r : (Nat → Nat → Int32)) (h : lb_181_5 c4 x1 x2 x3 x4 I = some r) : tt (d + 2) me_181 bk_181_5 [some (.ref 97), some (.int x1), some (.int x2), some (.int x3), some (.int x4)] [] (cw (km κ) cs I J W) (.inl none) (cw (km κ) cs r J W) :=
  tt_J (L1 := bk_181_4) 1 [some (.ref 97), some (.int x1), some (.int x2), some (.int x3), some (.int (x4 + (1 : Int32)))] [] (cw (km κ) cs I J W) (fun _ => rfl) (tt_F [some (.ref 97), some (.int x1), some (.int x2), some (.int x3), some (.int (x4 + (1 : Int32)))] (And.intro rfl (And.intro rfl (And.intro rfl (And.intro rfl (And.intro rfl trivial))))) (k4 x1 x2 x3 (x4 + (1 : Int32)) I _ h))
theorem tb_181_4 {d : Nat} {κ : KT} {cs : Nat × Nat} {J : Nat → Nat → Int64} {W : Nat} (c1 : Int32 → Int32 → Int32 → (Nat → Nat → Int32) → Option (Nat → Nat → Int32)) (k1 : ∀ (x1 : Int32) (x2 : Int32) (x3 : Int32) (I : (Nat → Nat → Int32)) (r : (Nat → Nat → Int32)), c1 x1 x2 x3 I = some r → tt (d + 2) me_181 bk_181_1 [some (.ref 97), some (.int x1), some (.int x2), some (.int x3), none] [] (cw (km κ) cs I J W) (.inl none) (cw (km κ) cs r J W)) (c4 : Int32 → Int32 → Int32 → Int32 → (Nat → Nat → Int32) → Option (Nat → Nat → Int32)) (k4 : ∀ (x1 : Int32) (x2 : Int32) (x3 : Int32) (x4 : Int32) (I : (Nat → Nat → Int32)) (r : (Nat → Nat → Int32)), c4 x1 x2 x3 x4 I = some r → tt (d + 2) me_181 bk_181_4 [some (.ref 97), some (.int x1), some (.int x2), some (.int x3), some (.int x4)] [] (cw (km κ) cs I J W) (.inl none) (cw (km κ) cs r J W)) (x1 : Int32) (x2 : Int32) (x3 : Int32) (x4 : Int32) (I : (Nat → Nat → Int32)) (r : (Nat → Nat → Int32)) (h : bd_181_4 c1 c4 x1 x2 x3 x4 I = some r) : tt (d + 2) me_181 bk_181_4 [some (.ref 97), some (.int x1), some (.int x2), some (.int x3), some (.int x4)] [] (cw (km κ) cs I J W) (.inl none) (cw (km κ) cs r J W) :=
  tt_I (L1 := (bk_181_4.drop 4)) (L2 := bk_181_6) 4 [some (.ref 97), some (.int x1), some (.int x2), some (.int x3), some (.int x4)] [] (cw (km κ) cs I J W) h (fun _ => rfl) (fun h =>
  tt_J (L1 := (bk_181_4.drop 7)) 2 [some (.ref 97), some (.int x1), some (.int x2), some (.int x3), some (.int x4)] [.int x4, .ref 110] (cw (km κ) cs I J W) (fun _ => rfl) (
  tt_Qi rfl h fun h =>
  tt_I (L1 := (bk_181_4.drop 10)) (L2 := bk_181_5) 2 [some (.ref 97), some (.int x1), some (.int x2), some (.int x3), some (.int x4)] [] (cw (km κ) cs I J W) h (fun _ => rfl) (fun h =>
  tt_C (L1 := (bk_181_4.drop 16)) 6 [some (.ref 97), some (.int x1), some (.int x2), some (.int x3), some (.int x4)] [.int x4, .ref 117] (cw (km κ) cs I J W) h (fun _ => rfl) (fun _ e => m_170 (d := d + 1) e) fun q6 h =>
  let I7 := up I 117 (x4).toNatClampNeg q6
  tt_Wi rfl (Nat.le_of_ble_eq_true rfl) h fun h =>
  tt_F [some (.ref 97), some (.int x1), some (.int x2), some (.int x3), some (.int x4)] (And.intro rfl (And.intro rfl (And.intro rfl (And.intro rfl (And.intro rfl trivial))))) (tl_181_5 c4 k4 x1 x2 x3 x4 I7 _ h)) (fun h =>
  tt_F [some (.ref 97), some (.int x1), some (.int x2), some (.int x3), some (.int x4)] (And.intro rfl (And.intro rfl (And.intro rfl (And.intro rfl (And.intro rfl trivial))))) (tl_181_5 c4 k4 x1 x2 x3 x4 I _ h)))) (fun h =>
  tt_J (L1 := bk_181_1) 1 [some (.ref 97), some (.int x1), some (.int x2), some (.int (x3 + (1 : Int32))), some (.int x4)] [] (cw (km κ) cs I J W) (fun _ => rfl) (tt_F [some (.ref 97), some (.int x1), some (.int x2), some (.int (x3 + (1 : Int32))), none] (And.intro rfl (And.intro rfl (And.intro rfl (And.intro rfl trivial)))) (k1 x1 x2 (x3 + (1 : Int32)) I _ h)))
theorem tn_181_4 {d : Nat} {κ : KT} {cs : Nat × Nat} {J : Nat → Nat → Int64} {W : Nat} (c1 : Int32 → Int32 → Int32 → (Nat → Nat → Int32) → Option (Nat → Nat → Int32)) (k1 : ∀ (x1 : Int32) (x2 : Int32) (x3 : Int32) (I : (Nat → Nat → Int32)) (r : (Nat → Nat → Int32)), c1 x1 x2 x3 I = some r → tt (d + 2) me_181 bk_181_1 [some (.ref 97), some (.int x1), some (.int x2), some (.int x3), none] [] (cw (km κ) cs I J W) (.inl none) (cw (km κ) cs r J W)) : ∀ (n : Nat) (x1 : Int32) (x2 : Int32) (x3 : Int32) (x4 : Int32) (I : (Nat → Nat → Int32)) (r : (Nat → Nat → Int32)), fx (fun _ _ _ _ _ => none) (bd_181_4 c1) n x1 x2 x3 x4 I = some r → tt (d + 2) me_181 bk_181_4 [some (.ref 97), some (.int x1), some (.int x2), some (.int x3), some (.int x4)] [] (cw (km κ) cs I J W) (.inl none) (cw (km κ) cs r J W)
  | 0 => fun _ _ _ _ _ _ h => nomatch h
  | n + 1 => fun x1 x2 x3 x4 I r h => tb_181_4 c1 k1 (fx _ (bd_181_4 c1) n) (tn_181_4 c1 k1 n) x1 x2 x3 x4 I r h
theorem tl_181_4 {d : Nat} {κ : KT} {cs : Nat × Nat} {J : Nat → Nat → Int64} {W : Nat} (c1 : Int32 → Int32 → Int32 → (Nat → Nat → Int32) → Option (Nat → Nat → Int32)) (k1 : ∀ (x1 : Int32) (x2 : Int32) (x3 : Int32) (I : (Nat → Nat → Int32)) (r : (Nat → Nat → Int32)), c1 x1 x2 x3 I = some r → tt (d + 2) me_181 bk_181_1 [some (.ref 97), some (.int x1), some (.int x2), some (.int x3), none] [] (cw (km κ) cs I J W) (.inl none) (cw (km κ) cs r J W)) (x1 : Int32) (x2 : Int32) (x3 : Int32) (x4 : Int32) (I : (Nat → Nat → Int32)) (r : (Nat → Nat → Int32)) (h : lb_181_4 c1 x1 x2 x3 x4 I = some r) : tt (d + 2) me_181 bk_181_4 [some (.ref 97), some (.int x1), some (.int x2), some (.int x3), some (.int x4)] [] (cw (km κ) cs I J W) (.inl none) (cw (km κ) cs r J W) := tn_181_4 c1 k1 FU x1 x2 x3 x4 I r h
theorem tl_181_3 {d : Nat} {κ : KT} {cs : Nat × Nat} {J : Nat → Nat → Int64} {W : Nat} (c1 : Int32 → Int32 → Int32 → (Nat → Nat → Int32) → Option (Nat → Nat → Int32)) (k1 : ∀ (x1 : Int32) (x2 : Int32) (x3 : Int32) (I : (Nat → Nat → Int32)) (r : (Nat → Nat → Int32)), c1 x1 x2 x3 I = some r → tt (d + 2) me_181 bk_181_1 [some (.ref 97), some (.int x1), some (.int x2), some (.int x3), none] [] (cw (km κ) cs I J W) (.inl none) (cw (km κ) cs r J W)) (x1 : Int32) (x2 : Int32) (x3 : Int32) (s1 : Int32) (s2 : Int32) (s3 : Int32) (I : (Nat → Nat → Int32)) (r : (Nat → Nat → Int32)) (h : lb_181_3 c1 x1 x2 x3 s1 s2 s3 I = some r) : tt (d + 2) me_181 bk_181_3 [some (.ref 97), some (.int x1), some (.int x2), some (.int x3), none] [.int s3, .int s2, .int s1, .ref 97] (cw (km κ) cs I J W) (.inl none) (cw (km κ) cs r J W) :=
  tt_C (L1 := (bk_181_3.drop 1)) 1 [some (.ref 97), some (.int x1), some (.int x2), some (.int x3), none] [] (cw (km κ) cs I J W) h (fun _ => rfl) (fun _ e => m_168 (d := d) e) fun q5 h =>
  tt_J (L1 := bk_181_4) 1 [some (.ref 97), some (.int x1), some (.int x2), some (.int x3), some (.int (0 : Int32))] [] (cw (km κ) cs q5 J W) (fun _ => rfl) (tt_F [some (.ref 97), some (.int x1), some (.int x2), some (.int x3), some (.int (0 : Int32))] (And.intro rfl (And.intro rfl (And.intro rfl (And.intro rfl (And.intro rfl trivial))))) (tl_181_4 c1 k1 x1 x2 x3 (0 : Int32) q5 _ h))
theorem tb_181_1 {d : Nat} {κ : KT} {cs : Nat × Nat} {J : Nat → Nat → Int64} {W : Nat} (c1 : Int32 → Int32 → Int32 → (Nat → Nat → Int32) → Option (Nat → Nat → Int32)) (k1 : ∀ (x1 : Int32) (x2 : Int32) (x3 : Int32) (I : (Nat → Nat → Int32)) (r : (Nat → Nat → Int32)), c1 x1 x2 x3 I = some r → tt (d + 2) me_181 bk_181_1 [some (.ref 97), some (.int x1), some (.int x2), some (.int x3), none] [] (cw (km κ) cs I J W) (.inl none) (cw (km κ) cs r J W)) (x1 : Int32) (x2 : Int32) (x3 : Int32) (I : (Nat → Nat → Int32)) (r : (Nat → Nat → Int32)) (h : bd_181_1  c1 x1 x2 x3 I = some r) : tt (d + 2) me_181 bk_181_1 [some (.ref 97), some (.int x1), some (.int x2), some (.int x3), none] [] (cw (km κ) cs I J W) (.inl none) (cw (km κ) cs r J W) :=
  tt_I (L1 := (bk_181_1.drop 4)) (L2 := bk_181_7) 4 [some (.ref 97), some (.int x1), some (.int x2), some (.int x3), none] [] (cw (km κ) cs I J W) h (fun _ => rfl) (fun h =>
  tt_I (L1 := (bk_181_1.drop 10)) (L2 := bk_181_2) 6 [some (.ref 97), some (.int x1), some (.int x2), some (.int x3), none] [.int x3, .int x3, .ref 97] (cw (km κ) cs I J W) h (fun _ => rfl) (fun h =>
  tt_C (L1 := (bk_181_1.drop 14)) 4 [some (.ref 97), some (.int x1), some (.int x2), some (.int x3), none] [.ref 97, .int x3, .int x3, .ref 97] (cw (km κ) cs I J W) h (fun _ => rfl) (fun _ e => m_175 (d := d + 1) e) fun q8 h =>
  tt_C (L1 := (bk_181_1.drop 16)) 2 [some (.ref 97), some (.int x1), some (.int x2), some (.int x3), none] [.int x3, .int x3, .ref 97] (cw (km κ) cs I J W) h (fun _ => rfl) (fun _ e => m_172 (d := d) e) fun q9 h =>
  tt_J (L1 := bk_181_3) 0 [some (.ref 97), some (.int x1), some (.int x2), some (.int x3), none] [.int q9.1, .int x3, .int x3, .ref 97] (cw (km κ) cs q9.2 J W) (fun _ => rfl) (tt_F [some (.ref 97), some (.int x1), some (.int x2), some (.int x3), none] (And.intro rfl (And.intro rfl (And.intro rfl (And.intro rfl trivial)))) (tl_181_3 c1 k1 x1 x2 x3 x3 x3 q9.1 q9.2 _ h))) (fun h =>
  tt_J (L1 := bk_181_3) 0 [some (.ref 97), some (.int x1), some (.int x2), some (.int x3), none] [.int x2, .int x3, .int x3, .ref 97] (cw (km κ) cs I J W) (fun _ => rfl) (tt_F [some (.ref 97), some (.int x1), some (.int x2), some (.int x3), none] (And.intro rfl (And.intro rfl (And.intro rfl (And.intro rfl trivial)))) (tl_181_3 c1 k1 x1 x2 x3 x3 x3 x2 I _ h)))) (fun h =>
  tt_J (L1 := bk_181_8) 1 [some (.ref 97), some (.int x1), some (.int x2), some (.int (0 : Int32)), none] [] (cw (km κ) cs I J W) (fun _ => rfl) (tt_F [some (.ref 97), none, none, some (.int (0 : Int32)), none] (And.intro rfl (And.intro rfl trivial)) (tl_181_8  (0 : Int32) I _ h)))
theorem tn_181_1 {d : Nat} {κ : KT} {cs : Nat × Nat} {J : Nat → Nat → Int64} {W : Nat} : ∀ (n : Nat) (x1 : Int32) (x2 : Int32) (x3 : Int32) (I : (Nat → Nat → Int32)) (r : (Nat → Nat → Int32)), fx (fun _ _ _ _ => none) (bd_181_1 ) n x1 x2 x3 I = some r → tt (d + 2) me_181 bk_181_1 [some (.ref 97), some (.int x1), some (.int x2), some (.int x3), none] [] (cw (km κ) cs I J W) (.inl none) (cw (km κ) cs r J W)
  | 0 => fun _ _ _ _ _ h => nomatch h
  | n + 1 => fun x1 x2 x3 I r h => tb_181_1  (fx _ (bd_181_1 ) n) (tn_181_1  n) x1 x2 x3 I r h
theorem tl_181_1 {d : Nat} {κ : KT} {cs : Nat × Nat} {J : Nat → Nat → Int64} {W : Nat} (x1 : Int32) (x2 : Int32) (x3 : Int32) (I : (Nat → Nat → Int32)) (r : (Nat → Nat → Int32)) (h : lb_181_1  x1 x2 x3 I = some r) : tt (d + 2) me_181 bk_181_1 [some (.ref 97), some (.int x1), some (.int x2), some (.int x3), none] [] (cw (km κ) cs I J W) (.inl none) (cw (km κ) cs r J W) := tn_181_1  FU x1 x2 x3 I r h
theorem m_181 {d : Nat} {κ : KT} {cs : Nat × Nat} {J : Nat → Nat → Int64} {W : Nat} {x1 : Int32} {x2 : Int32} {I : (Nat → Nat → Int32)} {r : (Nat → Nat → Int32)} (h : f_181 x1 x2 I = some r) : tm (d + 2) 181 [.ref 97, .int x1, .int x2] (cw (km κ) cs I J W) (.inl none) (cw (km κ) cs r J W) :=
  tm_of me_181 rfl (Nat.le_of_ble_eq_true rfl) (
  tt_C (L1 := (bk_181_0.drop 4)) 4 [some (.ref 97), some (.int x1), some (.int x2), none, none] [.ref 97] (cw (km κ) cs I J W) h (fun _ => rfl) (fun _ e => m_173 (d := d + 1) e) fun q1 h =>
  tt_C (L1 := (bk_181_0.drop 7)) 3 [some (.ref 97), some (.int x1), some (.int x2), none, none] [.int q1, .ref 97] (cw (km κ) cs I J W) h (fun _ => rfl) (fun _ e => m_174 (d := d + 1) e) fun q2 h =>
  tt_C (L1 := (bk_181_0.drop 8)) 1 [some (.ref 97), some (.int x1), some (.int x2), none, none] [] (cw (km κ) cs I J W) h (fun _ => rfl) (fun _ e => m_167 (d := d) e) fun q3 h =>
  tt_J (L1 := bk_181_1) 1 [some (.ref 97), some (.int x1), some (.int x2), some (.int (0 : Int32)), none] [] (cw (km κ) cs q3 J W) (fun _ => rfl) (tt_F [some (.ref 97), some (.int x1), some (.int x2), some (.int (0 : Int32)), none] (And.intro rfl (And.intro rfl (And.intro rfl (And.intro rfl trivial)))) (tl_181_1  x1 x2 (0 : Int32) q3 _ h)))
/- 182 -/
def bd_182_1 (c1 : Int32 → (Nat → Nat → Int32) → Option (Nat → Nat → Int32)) (x1 : Int32) (I : (Nat → Nat → Int32)) : Option (Nat → Nat → Int32) :=
  (if x1 < (60 : Int32) then (if ex_in x1 60 then let I1 := up I 116 (x1).toNatClampNeg x1
  (c1 (x1 + (1 : Int32)) I1) else none) else (some I))
def lb_182_1 : Int32 → (Nat → Nat → Int32) → Option (Nat → Nat → Int32) := fx (fun _ _ => none) (bd_182_1 ) FU
def f_182 (I : (Nat → Nat → Int32)) : Option (Nat → Nat → Int32) :=
  (lb_182_1  (0 : Int32) I)
theorem tb_182_1 {d : Nat} {κ : KT} {cs : Nat × Nat} {J : Nat → Nat → Int64} {W : Nat} (c1 : Int32 → (Nat → Nat → Int32) → Option (Nat → Nat → Int32)) (k1 : ∀ (x1 : Int32) (I : (Nat → Nat → Int32)) (r : (Nat → Nat → Int32)), c1 x1 I = some r → tt d me_182 bk_182_1 [some (.ref 97), some (.int x1)] [] (cw (km κ) cs I J W) (.inl none) (cw (km κ) cs r J W)) (x1 : Int32) (I : (Nat → Nat → Int32)) (r : (Nat → Nat → Int32)) (h : bd_182_1  c1 x1 I = some r) : tt d me_182 bk_182_1 [some (.ref 97), some (.int x1)] [] (cw (km κ) cs I J W) (.inl none) (cw (km κ) cs r J W) :=
  tt_I (L1 := (bk_182_1.drop 3)) (L2 := bk_182_2) 3 [some (.ref 97), some (.int x1)] [] (cw (km κ) cs I J W) h (fun _ => rfl) (fun h =>
  let I1 := up I 116 (x1).toNatClampNeg x1
  tt_J (L1 := (bk_182_1.drop 7)) 3 [some (.ref 97), some (.int x1)] [.int x1, .int x1, .ref 116] (cw (km κ) cs I J W) (fun _ => rfl) (
  tt_Wi rfl (Nat.le_of_ble_eq_true rfl) h fun h =>
  tt_J (L1 := bk_182_1) 1 [some (.ref 97), some (.int (x1 + (1 : Int32)))] [] (cw (km κ) cs I1 J W) (fun _ => rfl) (tt_F [some (.ref 97), some (.int (x1 + (1 : Int32)))] (And.intro rfl (And.intro rfl trivial)) (k1 (x1 + (1 : Int32)) I1 _ h)))) (fun h =>
  tt_R 1 (fun r => (.inl none)) (fun r => (cw (km κ) cs r J W)) h (fun _ => rfl))
theorem tn_182_1 {d : Nat} {κ : KT} {cs : Nat × Nat} {J : Nat → Nat → Int64} {W : Nat} : ∀ (n : Nat) (x1 : Int32) (I : (Nat → Nat → Int32)) (r : (Nat → Nat → Int32)), fx (fun _ _ => none) (bd_182_1 ) n x1 I = some r → tt d me_182 bk_182_1 [some (.ref 97), some (.int x1)] [] (cw (km κ) cs I J W) (.inl none) (cw (km κ) cs r J W)
  | 0 => fun _ _ _ h => nomatch h
  | n + 1 => fun x1 I r h => tb_182_1  (fx _ (bd_182_1 ) n) (tn_182_1  n) x1 I r h
theorem tl_182_1 {d : Nat} {κ : KT} {cs : Nat × Nat} {J : Nat → Nat → Int64} {W : Nat} (x1 : Int32) (I : (Nat → Nat → Int32)) (r : (Nat → Nat → Int32)) (h : lb_182_1  x1 I = some r) : tt d me_182 bk_182_1 [some (.ref 97), some (.int x1)] [] (cw (km κ) cs I J W) (.inl none) (cw (km κ) cs r J W) := tn_182_1  FU x1 I r h
theorem m_182 {d : Nat} {κ : KT} {cs : Nat × Nat} {J : Nat → Nat → Int64} {W : Nat} {I : (Nat → Nat → Int32)} {r : (Nat → Nat → Int32)} (h : f_182  I = some r) : tm d 182 [.ref 97] (cw (km κ) cs I J W) (.inl none) (cw (km κ) cs r J W) :=
  tm_of me_182 rfl (Nat.le_of_ble_eq_true rfl) (
  tt_J (L1 := bk_182_1) 1 [some (.ref 97), some (.int (0 : Int32))] [] (cw (km κ) cs I J W) (fun _ => rfl) (tt_F [some (.ref 97), some (.int (0 : Int32))] (And.intro rfl (And.intro rfl trivial)) (tl_182_1  (0 : Int32) I _ h)))
/- 183 -/
def bd_183_1 (c1 : Int32 → Int32 → (Nat → Nat → Int32) → Option (Nat → Nat → Int32)) (x1 : Int32) (x2 : Int32) (I : (Nat → Nat → Int32)) : Option (Nat → Nat → Int32) :=
  (if x2 < x1 then ((f_181 x2 ((-1) : Int32) I).bind fun q2 => (c1 x1 (x2 + (1 : Int32)) q2)) else (some I))
def lb_183_1 : Int32 → Int32 → (Nat → Nat → Int32) → Option (Nat → Nat → Int32) := fx (fun _ _ _ => none) (bd_183_1 ) FU
def f_183 (x1 : Int32) (I : (Nat → Nat → Int32)) : Option (Nat → Nat → Int32) :=
  ((f_182  I).bind fun q1 => (lb_183_1  x1 (0 : Int32) q1))
theorem tb_183_1 {d : Nat} {κ : KT} {cs : Nat × Nat} {J : Nat → Nat → Int64} {W : Nat} (c1 : Int32 → Int32 → (Nat → Nat → Int32) → Option (Nat → Nat → Int32)) (k1 : ∀ (x1 : Int32) (x2 : Int32) (I : (Nat → Nat → Int32)) (r : (Nat → Nat → Int32)), c1 x1 x2 I = some r → tt (d + 3) me_183 bk_183_1 [some (.ref 97), some (.int x1), some (.int x2)] [] (cw (km κ) cs I J W) (.inl none) (cw (km κ) cs r J W)) (x1 : Int32) (x2 : Int32) (I : (Nat → Nat → Int32)) (r : (Nat → Nat → Int32)) (h : bd_183_1  c1 x1 x2 I = some r) : tt (d + 3) me_183 bk_183_1 [some (.ref 97), some (.int x1), some (.int x2)] [] (cw (km κ) cs I J W) (.inl none) (cw (km κ) cs r J W) :=
  tt_I (L1 := (bk_183_1.drop 3)) (L2 := bk_183_2) 3 [some (.ref 97), some (.int x1), some (.int x2)] [] (cw (km κ) cs I J W) h (fun _ => rfl) (fun h =>
  tt_C (L1 := (bk_183_1.drop 7)) 4 [some (.ref 97), some (.int x1), some (.int x2)] [] (cw (km κ) cs I J W) h (fun _ => rfl) (fun _ e => m_181 (d := d) e) fun q2 h =>
  tt_J (L1 := bk_183_1) 1 [some (.ref 97), some (.int x1), some (.int (x2 + (1 : Int32)))] [] (cw (km κ) cs q2 J W) (fun _ => rfl) (tt_F [some (.ref 97), some (.int x1), some (.int (x2 + (1 : Int32)))] (And.intro rfl (And.intro rfl (And.intro rfl trivial))) (k1 x1 (x2 + (1 : Int32)) q2 _ h))) (fun h =>
  tt_R 1 (fun r => (.inl none)) (fun r => (cw (km κ) cs r J W)) h (fun _ => rfl))
theorem tn_183_1 {d : Nat} {κ : KT} {cs : Nat × Nat} {J : Nat → Nat → Int64} {W : Nat} : ∀ (n : Nat) (x1 : Int32) (x2 : Int32) (I : (Nat → Nat → Int32)) (r : (Nat → Nat → Int32)), fx (fun _ _ _ => none) (bd_183_1 ) n x1 x2 I = some r → tt (d + 3) me_183 bk_183_1 [some (.ref 97), some (.int x1), some (.int x2)] [] (cw (km κ) cs I J W) (.inl none) (cw (km κ) cs r J W)
  | 0 => fun _ _ _ _ h => nomatch h
  | n + 1 => fun x1 x2 I r h => tb_183_1  (fx _ (bd_183_1 ) n) (tn_183_1  n) x1 x2 I r h
theorem tl_183_1 {d : Nat} {κ : KT} {cs : Nat × Nat} {J : Nat → Nat → Int64} {W : Nat} (x1 : Int32) (x2 : Int32) (I : (Nat → Nat → Int32)) (r : (Nat → Nat → Int32)) (h : lb_183_1  x1 x2 I = some r) : tt (d + 3) me_183 bk_183_1 [some (.ref 97), some (.int x1), some (.int x2)] [] (cw (km κ) cs I J W) (.inl none) (cw (km κ) cs r J W) := tn_183_1  FU x1 x2 I r h
theorem m_183 {d : Nat} {κ : KT} {cs : Nat × Nat} {J : Nat → Nat → Int64} {W : Nat} {x1 : Int32} {I : (Nat → Nat → Int32)} {r : (Nat → Nat → Int32)} (h : f_183 x1 I = some r) : tm (d + 3) 183 [.ref 97, .int x1] (cw (km κ) cs I J W) (.inl none) (cw (km κ) cs r J W) :=
  tm_of me_183 rfl (Nat.le_of_ble_eq_true rfl) (
  tt_C (L1 := (bk_183_0.drop 2)) 2 [some (.ref 97), some (.int x1), none] [] (cw (km κ) cs I J W) h (fun _ => rfl) (fun _ e => m_182 (d := d + 2) e) fun q1 h =>
  tt_J (L1 := bk_183_1) 1 [some (.ref 97), some (.int x1), some (.int (0 : Int32))] [] (cw (km κ) cs q1 J W) (fun _ => rfl) (tt_F [some (.ref 97), some (.int x1), some (.int (0 : Int32))] (And.intro rfl (And.intro rfl (And.intro rfl trivial))) (tl_183_1  x1 (0 : Int32) q1 _ h)))
/- 184 -/
def bd_184_1 (c1 : Int32 → (Nat → Nat → Int32) → Option Int32) (x1 : Int32) (I : (Nat → Nat → Int32)) : Option Int32 :=
  (if x1 < (I 97 1) then (if ex_in x1 60 then (if ex_in (0 : Int32) 60 then (if (I 116 (x1).toNatClampNeg) = (I 116 ((0 : Int32)).toNatClampNeg) then (c1 (x1 + (1 : Int32)) I) else (some (0 : Int32))) else none) else none) else (some (1 : Int32)))
def lb_184_1 : Int32 → (Nat → Nat → Int32) → Option Int32 := fx (fun _ _ => none) (bd_184_1 ) FU
def f_184 (I : (Nat → Nat → Int32)) : Option Int32 :=
  (lb_184_1  (1 : Int32) I)
theorem tb_184_1 {d : Nat} {κ : KT} {cs : Nat × Nat} {J : Nat → Nat → Int64} {W : Nat} (c1 : Int32 → (Nat → Nat → Int32) → Option Int32) (k1 : ∀ (x1 : Int32) (I : (Nat → Nat → Int32)) (r : Int32), c1 x1 I = some r → tt d me_184 bk_184_1 [some (.ref 97), some (.int x1)] [] (cw (km κ) cs I J W) (.inl (some (.int r))) (cw (km κ) cs I J W)) (x1 : Int32) (I : (Nat → Nat → Int32)) (r : Int32) (h : bd_184_1  c1 x1 I = some r) : tt d me_184 bk_184_1 [some (.ref 97), some (.int x1)] [] (cw (km κ) cs I J W) (.inl (some (.int r))) (cw (km κ) cs I J W) :=
  tt_I (L1 := (bk_184_1.drop 4)) (L2 := bk_184_3) 4 [some (.ref 97), some (.int x1)] [] (cw (km κ) cs I J W) h (fun _ => rfl) (fun h =>
  tt_J (L1 := (bk_184_1.drop 7)) 2 [some (.ref 97), some (.int x1)] [.int x1, .ref 116] (cw (km κ) cs I J W) (fun _ => rfl) (
  tt_Qi rfl h fun h =>
  tt_J (L1 := (bk_184_1.drop 11)) 2 [some (.ref 97), some (.int x1)] [.int (0 : Int32), .ref 116, .int (I 116 (x1).toNatClampNeg)] (cw (km κ) cs I J W) (fun _ => rfl) (
  tt_Qi rfl h fun h =>
  tt_I (L1 := bk_184_2) (L2 := (bk_184_1.drop 13)) 1 [some (.ref 97), some (.int x1)] [] (cw (km κ) cs I J W) h (fun _ => rfl) (fun h =>
  tt_J (L1 := bk_184_1) 1 [some (.ref 97), some (.int (x1 + (1 : Int32)))] [] (cw (km κ) cs I J W) (fun _ => rfl) (tt_F [some (.ref 97), some (.int (x1 + (1 : Int32)))] (And.intro rfl (And.intro rfl trivial)) (k1 (x1 + (1 : Int32)) I _ h))) (fun h =>
  tt_R 2 (fun r => (.inl (some (.int r)))) (fun r => (cw (km κ) cs I J W)) h (fun _ => rfl))))) (fun h =>
  tt_R 2 (fun r => (.inl (some (.int r)))) (fun r => (cw (km κ) cs I J W)) h (fun _ => rfl))
theorem tn_184_1 {d : Nat} {κ : KT} {cs : Nat × Nat} {J : Nat → Nat → Int64} {W : Nat} : ∀ (n : Nat) (x1 : Int32) (I : (Nat → Nat → Int32)) (r : Int32), fx (fun _ _ => none) (bd_184_1 ) n x1 I = some r → tt d me_184 bk_184_1 [some (.ref 97), some (.int x1)] [] (cw (km κ) cs I J W) (.inl (some (.int r))) (cw (km κ) cs I J W)
  | 0 => fun _ _ _ h => nomatch h
  | n + 1 => fun x1 I r h => tb_184_1  (fx _ (bd_184_1 ) n) (tn_184_1  n) x1 I r h
theorem tl_184_1 {d : Nat} {κ : KT} {cs : Nat × Nat} {J : Nat → Nat → Int64} {W : Nat} (x1 : Int32) (I : (Nat → Nat → Int32)) (r : Int32) (h : lb_184_1  x1 I = some r) : tt d me_184 bk_184_1 [some (.ref 97), some (.int x1)] [] (cw (km κ) cs I J W) (.inl (some (.int r))) (cw (km κ) cs I J W) := tn_184_1  FU x1 I r h
theorem m_184 {d : Nat} {κ : KT} {cs : Nat × Nat} {J : Nat → Nat → Int64} {W : Nat} {I : (Nat → Nat → Int32)} {r : Int32} (h : f_184  I = some r) : tm d 184 [.ref 97] (cw (km κ) cs I J W) (.inl (some (.int r))) (cw (km κ) cs I J W) :=
  tm_of me_184 rfl (Nat.le_of_ble_eq_true rfl) (
  tt_J (L1 := bk_184_1) 1 [some (.ref 97), some (.int (1 : Int32))] [] (cw (km κ) cs I J W) (fun _ => rfl) (tt_F [some (.ref 97), some (.int (1 : Int32))] (And.intro rfl (And.intro rfl trivial)) (tl_184_1  (1 : Int32) I _ h)))
/- 185 -/
def lb_185_1 (I : (Nat → Nat → Int32)) : Option (Int32 × (Nat → Nat → Int32)) :=
  (some ((0 : Int32), I))
def f_185 (x1 : Int32) (x2 : Int32) (I : (Nat → Nat → Int32)) : Option (Int32 × (Nat → Nat → Int32)) :=
  (let I1 := up I 97 0 (0 : Int32)
  ((f_176 x1 I1).bind fun q2 => (if q2.1 = 0 then (lb_185_1   q2.2) else ((f_178 x2 (2 : Int32) q2.2).bind fun q3 => (if q3.1 = 0 then (lb_185_1   q3.2) else ((f_183 x2 q3.2).bind fun q4 => (if ex_in x1 60 then (some ((q4 116 (x1).toNatClampNeg), q4)) else none)))))))
theorem tl_185_1 {d : Nat} {κ : KT} {cs : Nat × Nat} {J : Nat → Nat → Int64} {W : Nat} (I : (Nat → Nat → Int32)) (r : (Int32 × (Nat → Nat → Int32))) (h : lb_185_1   I = some r) : tt (d + 4) me_185 bk_185_1 [none, none, none] [] (cw (km κ) cs I J W) (.inl (some (.int r.1))) (cw (km κ) cs r.2 J W) :=
  tt_R 2 (fun r => (.inl (some (.int r.1)))) (fun r => (cw (km κ) cs r.2 J W)) h (fun _ => rfl)
theorem m_185 {d : Nat} {κ : KT} {cs : Nat × Nat} {J : Nat → Nat → Int64} {W : Nat} {x1 : Int32} {x2 : Int32} {I : (Nat → Nat → Int32)} {r : (Int32 × (Nat → Nat → Int32))} (h : f_185 x1 x2 I = some r) : tm (d + 4) 185 [.ref 97, .int x1, .int x2] (cw (km κ) cs I J W) (.inl (some (.int r.1))) (cw (km κ) cs r.2 J W) :=
  tm_of me_185 rfl (Nat.le_of_ble_eq_true rfl) (
  let I1 := up I 97 0 (0 : Int32)
  tt_C (L1 := (bk_185_0.drop 6)) 6 [some (.ref 97), some (.int x1), some (.int x2)] [] (cw (km κ) cs I1 J W) (show ((f_176 x1 I1).bind fun q2 => (if q2.1 = 0 then (lb_185_1   q2.2) else ((f_178 x2 (2 : Int32) q2.2).bind fun q3 => (if q3.1 = 0 then (lb_185_1   q3.2) else ((f_183 x2 q3.2).bind fun q4 => (if ex_in x1 60 then (some ((q4 116 (x1).toNatClampNeg), q4)) else none)))))) = some r from h) (fun _ => rfl) (fun _ e => m_176 (d := d + 2) e) fun q2 h =>
  tt_I (L1 := bk_185_1) (L2 := (bk_185_0.drop 7)) 1 [some (.ref 97), some (.int x1), some (.int x2)] [] (cw (km κ) cs q2.2 J W) h (fun _ => rfl) (fun h =>
  tt_F [none, none, none] trivial (tl_185_1   q2.2 _ h)) (fun h =>
  tt_C (L1 := (bk_185_0.drop 11)) 4 [some (.ref 97), some (.int x1), some (.int x2)] [] (cw (km κ) cs q2.2 J W) h (fun _ => rfl) (fun _ e => m_178 (d := d + 2) e) fun q3 h =>
  tt_I (L1 := bk_185_1) (L2 := bk_185_2) 1 [some (.ref 97), some (.int x1), some (.int x2)] [] (cw (km κ) cs q3.2 J W) h (fun _ => rfl) (fun h =>
  tt_F [none, none, none] trivial (tl_185_1   q3.2 _ h)) (fun h =>
  tt_C (L1 := (bk_185_2.drop 3)) 3 [some (.ref 97), some (.int x1), some (.int x2)] [] (cw (km κ) cs q3.2 J W) h (fun _ => rfl) (fun _ e => m_183 (d := d) e) fun q4 h =>
  tt_J (L1 := (bk_185_2.drop 6)) 2 [some (.ref 97), some (.int x1), some (.int x2)] [.int x1, .ref 116] (cw (km κ) cs q4 J W) (fun _ => rfl) (
  tt_Qi rfl h fun h =>
  tt_R 1 (fun r => (.inl (some (.int r.1)))) (fun r => (cw (km κ) cs r.2 J W)) h (fun _ => rfl)))))
/- 186 -/
def lb_186_3 (s0 : Int32) (I : (Nat → Nat → Int32)) : Option (Int32 × (Nat → Nat → Int32)) :=
  (some (s0, I))
def f_186 (x1 : Int32) (I : (Nat → Nat → Int32)) : Option (Int32 × (Nat → Nat → Int32)) :=
  (let I1 := up I 97 0 (0 : Int32)
  ((f_178 x1 (1 : Int32) I1).bind fun q2 => (if q2.1 = 0 then (some ((0 : Int32), q2.2)) else ((f_183 x1 q2.2).bind fun q3 => ((f_184  q3).bind fun q4 => (if q4 = 0 then (lb_186_3  ((-1) : Int32) q3) else (if ex_in (0 : Int32) 60 then (lb_186_3  (q3 116 ((0 : Int32)).toNatClampNeg) q3) else none)))))))
theorem tl_186_3 {d : Nat} {κ : KT} {cs : Nat × Nat} {J : Nat → Nat → Int64} {W : Nat} (s0 : Int32) (I : (Nat → Nat → Int32)) (r : (Int32 × (Nat → Nat → Int32))) (h : lb_186_3  s0 I = some r) : tt (d + 4) me_186 bk_186_3 [none, none] [.int s0] (cw (km κ) cs I J W) (.inl (some (.int r.1))) (cw (km κ) cs r.2 J W) :=
  tt_R 1 (fun r => (.inl (some (.int r.1)))) (fun r => (cw (km κ) cs r.2 J W)) h (fun _ => rfl)
theorem m_186 {d : Nat} {κ : KT} {cs : Nat × Nat} {J : Nat → Nat → Int64} {W : Nat} {x1 : Int32} {I : (Nat → Nat → Int32)} {r : (Int32 × (Nat → Nat → Int32))} (h : f_186 x1 I = some r) : tm (d + 4) 186 [.ref 97, .int x1] (cw (km κ) cs I J W) (.inl (some (.int r.1))) (cw (km κ) cs r.2 J W) :=
  tm_of me_186 rfl (Nat.le_of_ble_eq_true rfl) (
  let I1 := up I 97 0 (0 : Int32)
  tt_C (L1 := (bk_186_0.drop 7)) 7 [some (.ref 97), some (.int x1)] [] (cw (km κ) cs I1 J W) (show ((f_178 x1 (1 : Int32) I1).bind fun q2 => (if q2.1 = 0 then (some ((0 : Int32), q2.2)) else ((f_183 x1 q2.2).bind fun q3 => ((f_184  q3).bind fun q4 => (if q4 = 0 then (lb_186_3  ((-1) : Int32) q3) else (if ex_in (0 : Int32) 60 then (lb_186_3  (q3 116 ((0 : Int32)).toNatClampNeg) q3) else none)))))) = some r from h) (fun _ => rfl) (fun _ e => m_178 (d := d + 2) e) fun q2 h =>
  tt_I (L1 := (bk_186_0.drop 8)) (L2 := bk_186_1) 1 [some (.ref 97), some (.int x1)] [] (cw (km κ) cs q2.2 J W) h (fun _ => rfl) (fun h =>
  tt_R 2 (fun r => (.inl (some (.int r.1)))) (fun r => (cw (km κ) cs r.2 J W)) h (fun _ => rfl)) (fun h =>
  tt_C (L1 := (bk_186_1.drop 3)) 3 [some (.ref 97), some (.int x1)] [] (cw (km κ) cs q2.2 J W) h (fun _ => rfl) (fun _ e => m_183 (d := d) e) fun q3 h =>
  tt_C (L1 := (bk_186_1.drop 5)) 2 [some (.ref 97), some (.int x1)] [] (cw (km κ) cs q3 J W) h (fun _ => rfl) (fun _ e => m_184 (d := d + 3) e) fun q4 h =>
  tt_I (L1 := bk_186_2) (L2 := (bk_186_1.drop 6)) 1 [some (.ref 97), some (.int x1)] [] (cw (km κ) cs q3 J W) h (fun _ => rfl) (fun h =>
  tt_J (L1 := bk_186_3) 0 [some (.ref 97), some (.int x1)] [.int ((-1) : Int32)] (cw (km κ) cs q3 J W) (fun _ => rfl) (tt_F [none, none] trivial (tl_186_3  ((-1) : Int32) q3 _ h))) (fun h =>
  tt_J (L1 := (bk_186_1.drop 9)) 2 [some (.ref 97), some (.int x1)] [.int (0 : Int32), .ref 116] (cw (km κ) cs q3 J W) (fun _ => rfl) (
  tt_Qi rfl h fun h =>
  tt_J (L1 := bk_186_3) 0 [some (.ref 97), some (.int x1)] [.int (q3 116 ((0 : Int32)).toNatClampNeg)] (cw (km κ) cs q3 J W) (fun _ => rfl) (tt_F [none, none] trivial (tl_186_3  (q3 116 ((0 : Int32)).toNatClampNeg) q3 _ h))))))
/- 187 -/
def bd_187_1 (c1 : Int32 → (Nat → Nat → Int32) → Option (Int32 × (Nat → Nat → Int32))) (x1 : Int32) (I : (Nat → Nat → Int32)) : Option (Int32 × (Nat → Nat → Int32)) :=
  (if (60 : Int32) < x1 then (some (((-1) : Int32), I)) else ((f_184  I).bind fun q3 => (if q3 = 0 then ((f_181 x1 ((-1) : Int32) I).bind fun q4 => (c1 (x1 + (1 : Int32)) q4)) else (some (x1, I)))))
def lb_187_1 : Int32 → (Nat → Nat → Int32) → Option (Int32 × (Nat → Nat → Int32)) := fx (fun _ _ => none) (bd_187_1 ) FU
def f_187 (I : (Nat → Nat → Int32)) : Option (Int32 × (Nat → Nat → Int32)) :=
  (let I1 := up I 97 0 (0 : Int32)
  ((f_182  I1).bind fun q2 => (lb_187_1  (0 : Int32) q2)))
theorem tb_187_1 {d : Nat} {κ : KT} {cs : Nat × Nat} {J : Nat → Nat → Int64} {W : Nat} (c1 : Int32 → (Nat → Nat → Int32) → Option (Int32 × (Nat → Nat → Int32))) (k1 : ∀ (x1 : Int32) (I : (Nat → Nat → Int32)) (r : (Int32 × (Nat → Nat → Int32))), c1 x1 I = some r → tt (d + 3) me_187 bk_187_1 [some (.ref 97), some (.int x1)] [] (cw (km κ) cs I J W) (.inl (some (.int r.1))) (cw (km κ) cs r.2 J W)) (x1 : Int32) (I : (Nat → Nat → Int32)) (r : (Int32 × (Nat → Nat → Int32))) (h : bd_187_1  c1 x1 I = some r) : tt (d + 3) me_187 bk_187_1 [some (.ref 97), some (.int x1)] [] (cw (km κ) cs I J W) (.inl (some (.int r.1))) (cw (km κ) cs r.2 J W) :=
  tt_I (L1 := bk_187_3) (L2 := (bk_187_1.drop 3)) 3 [some (.ref 97), some (.int x1)] [] (cw (km κ) cs I J W) h (fun _ => rfl) (fun h =>
  tt_R 2 (fun r => (.inl (some (.int r.1)))) (fun r => (cw (km κ) cs r.2 J W)) h (fun _ => rfl)) (fun h =>
  tt_C (L1 := (bk_187_1.drop 5)) 2 [some (.ref 97), some (.int x1)] [] (cw (km κ) cs I J W) h (fun _ => rfl) (fun _ e => m_184 (d := d + 2) e) fun q3 h =>
  tt_I (L1 := bk_187_2) (L2 := (bk_187_1.drop 6)) 1 [some (.ref 97), some (.int x1)] [] (cw (km κ) cs I J W) h (fun _ => rfl) (fun h =>
  tt_C (L1 := (bk_187_2.drop 4)) 4 [some (.ref 97), some (.int x1)] [] (cw (km κ) cs I J W) h (fun _ => rfl) (fun _ e => m_181 (d := d) e) fun q4 h =>
  tt_J (L1 := bk_187_1) 1 [some (.ref 97), some (.int (x1 + (1 : Int32)))] [] (cw (km κ) cs q4 J W) (fun _ => rfl) (tt_F [some (.ref 97), some (.int (x1 + (1 : Int32)))] (And.intro rfl (And.intro rfl trivial)) (k1 (x1 + (1 : Int32)) q4 _ h))) (fun h =>
  tt_R 2 (fun r => (.inl (some (.int r.1)))) (fun r => (cw (km κ) cs r.2 J W)) h (fun _ => rfl)))
theorem tn_187_1 {d : Nat} {κ : KT} {cs : Nat × Nat} {J : Nat → Nat → Int64} {W : Nat} : ∀ (n : Nat) (x1 : Int32) (I : (Nat → Nat → Int32)) (r : (Int32 × (Nat → Nat → Int32))), fx (fun _ _ => none) (bd_187_1 ) n x1 I = some r → tt (d + 3) me_187 bk_187_1 [some (.ref 97), some (.int x1)] [] (cw (km κ) cs I J W) (.inl (some (.int r.1))) (cw (km κ) cs r.2 J W)
  | 0 => fun _ _ _ h => nomatch h
  | n + 1 => fun x1 I r h => tb_187_1  (fx _ (bd_187_1 ) n) (tn_187_1  n) x1 I r h
theorem tl_187_1 {d : Nat} {κ : KT} {cs : Nat × Nat} {J : Nat → Nat → Int64} {W : Nat} (x1 : Int32) (I : (Nat → Nat → Int32)) (r : (Int32 × (Nat → Nat → Int32))) (h : lb_187_1  x1 I = some r) : tt (d + 3) me_187 bk_187_1 [some (.ref 97), some (.int x1)] [] (cw (km κ) cs I J W) (.inl (some (.int r.1))) (cw (km κ) cs r.2 J W) := tn_187_1  FU x1 I r h
theorem m_187 {d : Nat} {κ : KT} {cs : Nat × Nat} {J : Nat → Nat → Int64} {W : Nat} {I : (Nat → Nat → Int32)} {r : (Int32 × (Nat → Nat → Int32))} (h : f_187  I = some r) : tm (d + 3) 187 [.ref 97] (cw (km κ) cs I J W) (.inl (some (.int r.1))) (cw (km κ) cs r.2 J W) :=
  tm_of me_187 rfl (Nat.le_of_ble_eq_true rfl) (
  let I1 := up I 97 0 (0 : Int32)
  tt_C (L1 := (bk_187_0.drop 5)) 5 [some (.ref 97), none] [] (cw (km κ) cs I1 J W) (show ((f_182  I1).bind fun q2 => (lb_187_1  (0 : Int32) q2)) = some r from h) (fun _ => rfl) (fun _ e => m_182 (d := d + 2) e) fun q2 h =>
  tt_J (L1 := bk_187_1) 1 [some (.ref 97), some (.int (0 : Int32))] [] (cw (km κ) cs q2 J W) (fun _ => rfl) (tt_F [some (.ref 97), some (.int (0 : Int32))] (And.intro rfl (And.intro rfl trivial)) (tl_187_1  (0 : Int32) q2 _ h)))
