/-! functions, by wip/whole/sy.py -/
/- 70 -/
def lb_70_2 (c1 : Int32 → Int32 → (Nat → Nat → Int32) → Option (Nat → Nat → Int32)) (x1 : Int32) (x2 : Int32) (I : (Nat → Nat → Int32)) : Option (Nat → Nat → Int32) :=
  (c1 x1 (x2 + ((-8) : Int32)) I)
def bd_70_1 (c1 : Int32 → Int32 → (Nat → Nat → Int32) → Option (Nat → Nat → Int32)) (x1 : Int32) (x2 : Int32) (I : (Nat → Nat → Int32)) : Option (Nat → Nat → Int32) :=
  (if x2 < 0 then (some I) else (if (I 60 1) < (nI 500) then (if ex_in (I 60 1) 500 then let I1 := up I 61 ((I 60 1)).toNatClampNeg (vp_nar .byte ((x1 >>> (x2 &&& 31))).toInt8.toInt32)
  (let I2 := up I1 60 1 ((I1 60 1) + (1 : Int32))
  (lb_70_2 c1 x1 x2 I2)) else none) else (lb_70_2 c1 x1 x2 I)))
def lb_70_1 : Int32 → Int32 → (Nat → Nat → Int32) → Option (Nat → Nat → Int32) := fx (fun _ _ _ => none) (bd_70_1 ) FU
def f_70 (x1 : Int32) (I : (Nat → Nat → Int32)) : Option (Nat → Nat → Int32) :=
  (lb_70_1  x1 (24 : Int32) I)
theorem tl_70_2 {d : Nat} {κ : Nat × Option Nat} {cs : Nat × Nat} {J : Nat → Nat → Int64} {W : Nat} (c1 : Int32 → Int32 → (Nat → Nat → Int32) → Option (Nat → Nat → Int32)) (k1 : ∀ (x1 : Int32) (x2 : Int32) (I : (Nat → Nat → Int32)) (r : (Nat → Nat → Int32)), c1 x1 x2 I = some r → tt d me_70 bk_70_1 [some (.ref 60), some (.int x1), some (.int x2)] [] (cw κ cs I J W) (.inl none) (cw κ cs r J W)) (x1 : Int32) (x2 : Int32) (I : (Nat → Nat → Int32)) (r : (Nat → Nat → Int32)) (h : lb_70_2 c1 x1 x2 I = some r) : tt d me_70 bk_70_2 [some (.ref 60), some (.int x1), some (.int x2)] [] (cw κ cs I J W) (.inl none) (cw κ cs r J W) :=
  tt_J (L1 := bk_70_1) 1 [some (.ref 60), some (.int x1), some (.int (x2 + ((-8) : Int32)))] [] (cw κ cs I J W) (fun _ => rfl) (tt_F [some (.ref 60), some (.int x1), some (.int (x2 + ((-8) : Int32)))] (And.intro rfl (And.intro rfl (And.intro rfl trivial))) (k1 x1 (x2 + ((-8) : Int32)) I _ h))
theorem tb_70_1 {d : Nat} {κ : Nat × Option Nat} {cs : Nat × Nat} {J : Nat → Nat → Int64} {W : Nat} (c1 : Int32 → Int32 → (Nat → Nat → Int32) → Option (Nat → Nat → Int32)) (k1 : ∀ (x1 : Int32) (x2 : Int32) (I : (Nat → Nat → Int32)) (r : (Nat → Nat → Int32)), c1 x1 x2 I = some r → tt d me_70 bk_70_1 [some (.ref 60), some (.int x1), some (.int x2)] [] (cw κ cs I J W) (.inl none) (cw κ cs r J W)) (x1 : Int32) (x2 : Int32) (I : (Nat → Nat → Int32)) (r : (Nat → Nat → Int32)) (h : bd_70_1  c1 x1 x2 I = some r) : tt d me_70 bk_70_1 [some (.ref 60), some (.int x1), some (.int x2)] [] (cw κ cs I J W) (.inl none) (cw κ cs r J W) :=
  tt_I (L1 := bk_70_3) (L2 := (bk_70_1.drop 2)) 2 [some (.ref 60), some (.int x1), some (.int x2)] [] (cw κ cs I J W) h (fun _ => rfl) (fun h =>
  tt_R 1 (fun r => (.inl none)) (fun r => (cw κ cs r J W)) h (fun _ => rfl)) (fun h =>
  tt_I (L1 := (bk_70_1.drop 8)) (L2 := bk_70_2) 6 [some (.ref 60), some (.int x1), some (.int x2)] [] (cw κ cs I J W) h (fun _ => rfl) (fun h =>
  let I1 := up I 61 ((I 60 1)).toNatClampNeg (vp_nar .byte ((x1 >>> (x2 &&& 31))).toInt8.toInt32)
  tt_J (L1 := (bk_70_1.drop 16)) 7 [some (.ref 60), some (.int x1), some (.int x2)] [.int ((x1 >>> (x2 &&& 31))).toInt8.toInt32, .int (I 60 1), .ref 61] (cw κ cs I J W) (fun _ => rfl) (
  tt_Wb rfl (Nat.le_of_ble_eq_true rfl) h fun h =>
  let I2 := up I1 60 1 ((I1 60 1) + (1 : Int32))
  tt_J (L1 := bk_70_2) 5 [some (.ref 60), some (.int x1), some (.int x2)] [] (cw κ cs I2 J W) (fun _ => rfl) (tt_F [some (.ref 60), some (.int x1), some (.int x2)] (And.intro rfl (And.intro rfl (And.intro rfl trivial))) (tl_70_2 c1 k1 x1 x2 I2 _ h)))) (fun h =>
  tt_F [some (.ref 60), some (.int x1), some (.int x2)] (And.intro rfl (And.intro rfl (And.intro rfl trivial))) (tl_70_2 c1 k1 x1 x2 I _ h)))
theorem tn_70_1 {d : Nat} {κ : Nat × Option Nat} {cs : Nat × Nat} {J : Nat → Nat → Int64} {W : Nat} : ∀ (n : Nat) (x1 : Int32) (x2 : Int32) (I : (Nat → Nat → Int32)) (r : (Nat → Nat → Int32)), fx (fun _ _ _ => none) (bd_70_1 ) n x1 x2 I = some r → tt d me_70 bk_70_1 [some (.ref 60), some (.int x1), some (.int x2)] [] (cw κ cs I J W) (.inl none) (cw κ cs r J W)
  | 0 => fun _ _ _ _ h => nomatch h
  | n + 1 => fun x1 x2 I r h => tb_70_1  (fx _ (bd_70_1 ) n) (tn_70_1  n) x1 x2 I r h
theorem tl_70_1 {d : Nat} {κ : Nat × Option Nat} {cs : Nat × Nat} {J : Nat → Nat → Int64} {W : Nat} (x1 : Int32) (x2 : Int32) (I : (Nat → Nat → Int32)) (r : (Nat → Nat → Int32)) (h : lb_70_1  x1 x2 I = some r) : tt d me_70 bk_70_1 [some (.ref 60), some (.int x1), some (.int x2)] [] (cw κ cs I J W) (.inl none) (cw κ cs r J W) := tn_70_1  FU x1 x2 I r h
theorem m_70 {d : Nat} {κ : Nat × Option Nat} {cs : Nat × Nat} {J : Nat → Nat → Int64} {W : Nat} {x1 : Int32} {I : (Nat → Nat → Int32)} {r : (Nat → Nat → Int32)} (h : f_70 x1 I = some r) : tm d 70 [.ref 60, .int x1] (cw κ cs I J W) (.inl none) (cw κ cs r J W) :=
  tm_of me_70 rfl (Nat.le_of_ble_eq_true rfl) (
  tt_J (L1 := bk_70_1) 1 [some (.ref 60), some (.int x1), some (.int (24 : Int32))] [] (cw κ cs I J W) (fun _ => rfl) (tt_F [some (.ref 60), some (.int x1), some (.int (24 : Int32))] (And.intro rfl (And.intro rfl (And.intro rfl trivial))) (tl_70_1  x1 (24 : Int32) I _ h)))
