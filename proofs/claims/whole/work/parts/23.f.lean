/-! functions, by wip/whole/sy.py -/
/- 216 -/
def lb_216_2 (s0 : Int32) (I : (Nat → Nat → Int32)) : Option Int32 :=
  (if (s0.toInt8.toInt32 = s0) then some s0 else none)
def f_216 (x0 : Nat) (I : (Nat → Nat → Int32)) : Option Int32 :=
  (if (1 : Int32) = 0 then (lb_216_2  (1 : Int32) I) else (if isS x0 then (lb_216_2  (I x0 1) I) else none))
theorem tl_216_2 {d : Nat} {κ : KT} {cs : Nat × Nat} {J : Nat → Nat → Int64} {W : Nat} (s0 : Int32) (I : (Nat → Nat → Int32)) (r : Int32) (h : lb_216_2  s0 I = some r) : tt d me_216 bk_216_2 [none] [.int s0] (cw κ cs I J W) (.inl (some (.int r))) (cw κ cs I J W) :=
  tt_B 1 (fun r => (.inl (some (.int r)))) (fun r => (cw κ cs I J W)) h (fun q => Or.inr (Or.inr (Or.inl ⟨rfl, q⟩))) (fun _ => rfl)
theorem m_216 {d : Nat} {κ : KT} {cs : Nat × Nat} {J : Nat → Nat → Int64} {W : Nat} {x0 : Nat} {I : (Nat → Nat → Int32)} {r : Int32} (h : f_216 x0 I = some r) : tm d 216 [.ref x0] (cw κ cs I J W) (.inl (some (.int r))) (cw κ cs I J W) :=
  tm_of me_216 rfl (Nat.le_of_ble_eq_true rfl) (
  tt_I (L1 := bk_216_1) (L2 := (bk_216_0.drop 2)) 2 [some (.ref x0)] [] (cw κ cs I J W) h (fun _ => rfl) (fun h =>
  tt_J (L1 := bk_216_2) 0 [some (.ref x0)] [.int (1 : Int32)] (cw κ cs I J W) (fun _ => rfl) (tt_F [none] trivial (tl_216_2  (1 : Int32) I _ h))) (fun h =>
  tt_J (L1 := (bk_216_0.drop 3)) 0 [some (.ref x0)] [.ref x0] (cw κ cs I J W) (fun _ => rfl) (
  tt_Sc h fun h =>
  tt_J (L1 := bk_216_2) 0 [some (.ref x0)] [.int (I x0 1)] (cw κ cs I J W) (fun _ => rfl) (tt_F [none] trivial (tl_216_2  (I x0 1) I _ h)))))
/- 214 -/
def f_214 (x0 : Nat) (I : (Nat → Nat → Int32)) : Option Int32 :=
  (if isS x0 then (if isB (x0 + 17) then (if isS x0 then ((f_216 x0 I).bind fun q1 => (some ((nI (bl (x0 + 17))) >>> (q1 &&& 31)))) else none) else none) else none)
theorem m_214 {d : Nat} {κ : KT} {cs : Nat × Nat} {J : Nat → Nat → Int64} {W : Nat} {x0 : Nat} {I : (Nat → Nat → Int32)} {r : Int32} (h : f_214 x0 I = some r) : tm (d + 1) 214 [.ref x0] (cw κ cs I J W) (.inl (some (.int r))) (cw κ cs I J W) :=
  tm_of me_214 rfl (Nat.le_of_ble_eq_true rfl) (
  tt_J (L1 := (bk_214_0.drop 1)) 0 [some (.ref x0)] [.ref x0] (cw κ cs I J W) (fun _ => rfl) (
  tt_Sv h fun h =>
  tt_Bl h fun h =>
  tt_J (L1 := (bk_214_0.drop 4)) 0 [some (.ref x0)] [.ref x0, .int (nI (bl (x0 + 17)))] (cw κ cs I J W) (fun _ => rfl) (
  tt_Cs1 (d := d) (Nat.le_of_ble_eq_true rfl) h (fun _ e => m_216 (d := d) e) fun q1 h =>
  tt_R 2 (fun r => (.inl (some (.int r)))) (fun r => (cw κ cs I J W)) h (fun _ => rfl))))
/- 217 -/
def lb_217_2 (s0 : Int32) (I : (Nat → Nat → Int32)) : Option Int32 :=
  (if (s0 = 0 ∨ s0 = 1) then some s0 else none)
def lb_217_1 (I : (Nat → Nat → Int32)) : Option Int32 :=
  (lb_217_2  (0 : Int32) I)
def f_217 (x0 : Nat) (I : (Nat → Nat → Int32)) : Option Int32 :=
  (if (1 : Int32) = 0 then (lb_217_1   I) else (if isS x0 then (if (I x0 1) = 0 then (lb_217_2  (1 : Int32) I) else (lb_217_1   I)) else none))
theorem tl_217_2 {d : Nat} {κ : KT} {cs : Nat × Nat} {J : Nat → Nat → Int64} {W : Nat} (s0 : Int32) (I : (Nat → Nat → Int32)) (r : Int32) (h : lb_217_2  s0 I = some r) : tt d me_217 bk_217_2 [none] [.int s0] (cw κ cs I J W) (.inl (some (.int r))) (cw κ cs I J W) :=
  tt_B 1 (fun r => (.inl (some (.int r)))) (fun r => (cw κ cs I J W)) h (fun q => Or.inr (Or.inl ⟨rfl, q⟩)) (fun _ => rfl)
theorem tl_217_1 {d : Nat} {κ : KT} {cs : Nat × Nat} {J : Nat → Nat → Int64} {W : Nat} (I : (Nat → Nat → Int32)) (r : Int32) (h : lb_217_1   I = some r) : tt d me_217 bk_217_1 [none] [] (cw κ cs I J W) (.inl (some (.int r))) (cw κ cs I J W) :=
  tt_J (L1 := bk_217_2) 0 [none] [.int (0 : Int32)] (cw κ cs I J W) (fun _ => rfl) (tt_F [none] trivial (tl_217_2  (0 : Int32) I _ h))
theorem m_217 {d : Nat} {κ : KT} {cs : Nat × Nat} {J : Nat → Nat → Int64} {W : Nat} {x0 : Nat} {I : (Nat → Nat → Int32)} {r : Int32} (h : f_217 x0 I = some r) : tm d 217 [.ref x0] (cw κ cs I J W) (.inl (some (.int r))) (cw κ cs I J W) :=
  tm_of me_217 rfl (Nat.le_of_ble_eq_true rfl) (
  tt_I (L1 := bk_217_1) (L2 := (bk_217_0.drop 2)) 2 [some (.ref x0)] [] (cw κ cs I J W) h (fun _ => rfl) (fun h =>
  tt_F [none] trivial (tl_217_1   I _ h)) (fun h =>
  tt_J (L1 := (bk_217_0.drop 3)) 0 [some (.ref x0)] [.ref x0] (cw κ cs I J W) (fun _ => rfl) (
  tt_Sc h fun h =>
  tt_I (L1 := (bk_217_0.drop 5)) (L2 := bk_217_1) 1 [some (.ref x0)] [] (cw κ cs I J W) h (fun _ => rfl) (fun h =>
  tt_J (L1 := bk_217_2) 1 [some (.ref x0)] [.int (1 : Int32)] (cw κ cs I J W) (fun _ => rfl) (tt_F [none] trivial (tl_217_2  (1 : Int32) I _ h))) (fun h =>
  tt_F [none] trivial (tl_217_1   I _ h)))))
/- 219 -/
def f_219 (x0 : Nat) (x1 : Int32) (I : (Nat → Nat → Int32)) : Option Int32 :=
  (if isB x0 then (if ¬ x1 < 0 ∧ x1 < (nI (bl x0)) then (if isB x0 ∧ ex_in x1 (bl x0) then (if ((((((I x0 (x1).toNatClampNeg) &&& (255 : Int32))).toUInt32 % 65536).toInt32.toUInt32 % 65536).toInt32 = ((((I x0 (x1).toNatClampNeg) &&& (255 : Int32))).toUInt32 % 65536).toInt32) then some ((((I x0 (x1).toNatClampNeg) &&& (255 : Int32))).toUInt32 % 65536).toInt32 else none) else none) else none) else none)
theorem m_219 {d : Nat} {κ : KT} {cs : Nat × Nat} {J : Nat → Nat → Int64} {W : Nat} {x0 : Nat} {x1 : Int32} {I : (Nat → Nat → Int32)} {r : Int32} (h : f_219 x0 x1 I = some r) : tm (d + 2) 219 [.ref x0, .int x1] (cw κ cs I J W) (.inl (some (.int r))) (cw κ cs I J W) :=
  tm_of me_219 rfl (Nat.le_of_ble_eq_true rfl) (
  tt_J (L1 := (bk_219_0.drop 2)) 1 [some (.ref x0), some (.int x1)] [.ref x0, .int x1] (cw κ cs I J W) (fun _ => rfl) (
  tt_Bl h fun h =>
  tt_H (d := d) (L1 := (bk_219_0.drop 4)) 1 [some (.ref x0), some (.int x1)] [] h (fun _ => rfl) (fun h =>
  tt_J (L1 := (bk_219_0.drop 6)) 1 [some (.ref x0), some (.int x1)] [.int x1, .ref x0] (cw κ cs I J W) (fun _ => rfl) (
  tt_Bb h fun h =>
  tt_B 4 (fun r => (.inl (some (.int r)))) (fun r => (cw κ cs I J W)) h (fun q => Or.inr (Or.inr (Or.inr ⟨rfl, q⟩))) (fun _ => rfl)))))
/- 215 -/
def f_215 (x0 : Nat) (x1 : Int32) (I : (Nat → Nat → Int32)) : Option Int32 :=
  (if isS x0 then ((f_217 x0 I).bind fun q1 => (if q1 = 0 then (if isS x0 then none else none) else (if isS x0 then ((f_219 (x0 + 17) x1 I).bind fun q2 => (if ((q2.toUInt32 % 65536).toInt32 = q2) then some q2 else none)) else none))) else none)
theorem m_215 {d : Nat} {κ : KT} {cs : Nat × Nat} {J : Nat → Nat → Int64} {W : Nat} {x0 : Nat} {x1 : Int32} {I : (Nat → Nat → Int32)} {r : Int32} (h : f_215 x0 x1 I = some r) : tm (d + 3) 215 [.ref x0, .int x1] (cw κ cs I J W) (.inl (some (.int r))) (cw κ cs I J W) :=
  tm_of me_215 rfl (Nat.le_of_ble_eq_true rfl) (
  tt_J (L1 := (bk_215_0.drop 1)) 0 [some (.ref x0), some (.int x1)] [.ref x0] (cw κ cs I J W) (fun _ => rfl) (
  tt_Cs1 (d := d + 2) (Nat.le_of_ble_eq_true rfl) h (fun _ e => m_217 (d := d + 2) e) fun q1 h =>
  tt_I (L1 := bk_215_1) (L2 := (bk_215_0.drop 3)) 1 [some (.ref x0), some (.int x1)] [] (cw κ cs I J W) h (fun _ => rfl) (fun h =>
  tt_J (L1 := (bk_215_1.drop 1)) 0 [some (.ref x0), some (.int x1)] [.ref x0] (cw κ cs I J W) (fun _ => rfl) (
  tt_Sv h fun h =>
  (nomatch h))) (fun h =>
  tt_J (L1 := (bk_215_0.drop 4)) 0 [some (.ref x0), some (.int x1)] [.ref x0] (cw κ cs I J W) (fun _ => rfl) (
  tt_Sv h fun h =>
  tt_C (L1 := (bk_215_0.drop 7)) 2 [some (.ref x0), some (.int x1)] [] (cw κ cs I J W) h (fun _ => rfl) (fun _ e => m_219 (d := d) e) fun q2 h =>
  tt_B 1 (fun r => (.inl (some (.int r)))) (fun r => (cw κ cs I J W)) h (fun q => Or.inr (Or.inr (Or.inr ⟨rfl, q⟩))) (fun _ => rfl)))))
/- 76 -/
def bd_76_2 (c2 : Nat → Int32 → (Nat → Nat → Int32) → Option Int32) (x1 : Nat) (x2 : Int32) (I : (Nat → Nat → Int32)) : Option Int32 :=
  (if isS x1 then ((f_214 x1 I).bind fun q2 => (if x2 < q2 then (if isS x1 then ((f_215 x1 x2 I).bind fun q3 => ((f_77 ((I 60 4) + x2) I).bind fun q4 => (if q3 = q4 then (c2 x1 (x2 + (1 : Int32)) I) else (some (0 : Int32))))) else none) else (some (1 : Int32)))) else none)
def lb_76_2 : Nat → Int32 → (Nat → Nat → Int32) → Option Int32 := fx (fun _ _ _ => none) (bd_76_2 ) FU
def f_76 (x1 : Nat) (I : (Nat → Nat → Int32)) : Option Int32 :=
  (if isS x1 then ((f_214 x1 I).bind fun q1 => (if q1 = ((I 60 3) - (I 60 4)) then (lb_76_2  x1 (0 : Int32) I) else (some (0 : Int32)))) else none)
theorem tb_76_2 {d : Nat} {κ : KT} {cs : Nat × Nat} {J : Nat → Nat → Int64} {W : Nat} (c2 : Nat → Int32 → (Nat → Nat → Int32) → Option Int32) (k2 : ∀ (x1 : Nat) (x2 : Int32) (I : (Nat → Nat → Int32)) (r : Int32), c2 x1 x2 I = some r → tt (d + 4) me_76 bk_76_2 [some (.ref 60), some (.ref x1), some (.int x2)] [] (cw κ cs I J W) (.inl (some (.int r))) (cw κ cs I J W)) (x1 : Nat) (x2 : Int32) (I : (Nat → Nat → Int32)) (r : Int32) (h : bd_76_2  c2 x1 x2 I = some r) : tt (d + 4) me_76 bk_76_2 [some (.ref 60), some (.ref x1), some (.int x2)] [] (cw κ cs I J W) (.inl (some (.int r))) (cw κ cs I J W) :=
  tt_J (L1 := (bk_76_2.drop 2)) 1 [some (.ref 60), some (.ref x1), some (.int x2)] [.ref x1, .int x2] (cw κ cs I J W) (fun _ => rfl) (
  tt_Cs1 (d := d + 3) (Nat.le_of_ble_eq_true rfl) h (fun _ e => m_214 (d := d + 2) e) fun q2 h =>
  tt_I (L1 := (bk_76_2.drop 4)) (L2 := bk_76_4) 1 [some (.ref 60), some (.ref x1), some (.int x2)] [] (cw κ cs I J W) h (fun _ => rfl) (fun h =>
  tt_J (L1 := (bk_76_2.drop 6)) 1 [some (.ref 60), some (.ref x1), some (.int x2)] [.int x2, .ref x1] (cw κ cs I J W) (fun _ => rfl) (
  tt_Cs2 (d := d + 3) (Nat.le_of_ble_eq_true rfl) h (fun _ e => m_215 (d := d) e) fun q3 h =>
  tt_C (L1 := (bk_76_2.drop 13)) 6 [some (.ref 60), some (.ref x1), some (.int x2)] [.int q3] (cw κ cs I J W) h (fun _ => rfl) (fun _ e => m_77 (d := d + 3) e) fun q4 h =>
  tt_I (L1 := bk_76_3) (L2 := (bk_76_2.drop 14)) 1 [some (.ref 60), some (.ref x1), some (.int x2)] [] (cw κ cs I J W) h (fun _ => rfl) (fun h =>
  tt_J (L1 := bk_76_2) 1 [some (.ref 60), some (.ref x1), some (.int (x2 + (1 : Int32)))] [] (cw κ cs I J W) (fun _ => rfl) (tt_F [some (.ref 60), some (.ref x1), some (.int (x2 + (1 : Int32)))] (And.intro rfl (And.intro rfl (And.intro rfl trivial))) (k2 x1 (x2 + (1 : Int32)) I _ h))) (fun h =>
  tt_R 2 (fun r => (.inl (some (.int r)))) (fun r => (cw κ cs I J W)) h (fun _ => rfl)))) (fun h =>
  tt_R 2 (fun r => (.inl (some (.int r)))) (fun r => (cw κ cs I J W)) h (fun _ => rfl)))
theorem tn_76_2 {d : Nat} {κ : KT} {cs : Nat × Nat} {J : Nat → Nat → Int64} {W : Nat} : ∀ (n : Nat) (x1 : Nat) (x2 : Int32) (I : (Nat → Nat → Int32)) (r : Int32), fx (fun _ _ _ => none) (bd_76_2 ) n x1 x2 I = some r → tt (d + 4) me_76 bk_76_2 [some (.ref 60), some (.ref x1), some (.int x2)] [] (cw κ cs I J W) (.inl (some (.int r))) (cw κ cs I J W)
  | 0 => fun _ _ _ _ h => nomatch h
  | n + 1 => fun x1 x2 I r h => tb_76_2  (fx _ (bd_76_2 ) n) (tn_76_2  n) x1 x2 I r h
theorem tl_76_2 {d : Nat} {κ : KT} {cs : Nat × Nat} {J : Nat → Nat → Int64} {W : Nat} (x1 : Nat) (x2 : Int32) (I : (Nat → Nat → Int32)) (r : Int32) (h : lb_76_2  x1 x2 I = some r) : tt (d + 4) me_76 bk_76_2 [some (.ref 60), some (.ref x1), some (.int x2)] [] (cw κ cs I J W) (.inl (some (.int r))) (cw κ cs I J W) := tn_76_2  FU x1 x2 I r h
theorem m_76 {d : Nat} {κ : KT} {cs : Nat × Nat} {J : Nat → Nat → Int64} {W : Nat} {x1 : Nat} {I : (Nat → Nat → Int32)} {r : Int32} (h : f_76 x1 I = some r) : tm (d + 4) 76 [.ref 60, .ref x1] (cw κ cs I J W) (.inl (some (.int r))) (cw κ cs I J W) :=
  tm_of me_76 rfl (Nat.le_of_ble_eq_true rfl) (
  tt_J (L1 := (bk_76_0.drop 1)) 0 [some (.ref 60), some (.ref x1), none] [.ref x1] (cw κ cs I J W) (fun _ => rfl) (
  tt_Cs1 (d := d + 3) (Nat.le_of_ble_eq_true rfl) h (fun _ e => m_214 (d := d + 2) e) fun q1 h =>
  tt_I (L1 := bk_76_1) (L2 := (bk_76_0.drop 8)) 6 [some (.ref 60), some (.ref x1), none] [] (cw κ cs I J W) h (fun _ => rfl) (fun h =>
  tt_J (L1 := bk_76_2) 1 [some (.ref 60), some (.ref x1), some (.int (0 : Int32))] [] (cw κ cs I J W) (fun _ => rfl) (tt_F [some (.ref 60), some (.ref x1), some (.int (0 : Int32))] (And.intro rfl (And.intro rfl (And.intro rfl trivial))) (tl_76_2  x1 (0 : Int32) I _ h))) (fun h =>
  tt_R 2 (fun r => (.inl (some (.int r)))) (fun r => (cw κ cs I J W)) h (fun _ => rfl))))
/- 73 -/
def lb_73_5 (I : (Nat → Nat → Int32)) (W : Nat) : Option ((Nat → Nat → Int32) × Nat) :=
  (some (I, W))
def lb_73_4 (c3 : Int32 → (Nat → Nat → Int32) → Nat → Option ((Nat → Nat → Int32) × Nat)) (x1 : Int32) (I : (Nat → Nat → Int32)) (W : Nat) : Option ((Nat → Nat → Int32) × Nat) :=
  (c3 (x1 + (1 : Int32)) I W)
def bd_73_3 (c3 : Int32 → (Nat → Nat → Int32) → Nat → Option ((Nat → Nat → Int32) × Nat)) (x1 : Int32) (I : (Nat → Nat → Int32)) (W : Nat) : Option ((Nat → Nat → Int32) × Nat) :=
  (if x1 < (nI 17) then (if isw W ∧ isw 17 then (if W = 17 then (if ex_in x1 17 then (if isw (1 + (x1).toNatClampNeg) then ((f_76 ((1 + (x1).toNatClampNeg) + 17) I).bind fun q2 => (if q2 = 0 then (lb_73_4 c3 x1 I W) else (if ex_in x1 17 then (lb_73_4 c3 x1 I (1 + (x1).toNatClampNeg)) else none))) else none) else none) else (lb_73_5   I W)) else none) else (lb_73_5   I W))
def lb_73_3 : Int32 → (Nat → Nat → Int32) → Nat → Option ((Nat → Nat → Int32) × Nat) := fx (fun _ _ _ => none) (bd_73_3 ) FU
def lb_73_2 (I : (Nat → Nat → Int32)) (W : Nat) : Option ((Nat → Nat → Int32) × Nat) :=
  (lb_73_3  (0 : Int32) I W)
def bd_73_1 (c1 : (Nat → Nat → Int32) → Nat → Option ((Nat → Nat → Int32) × Nat)) (I : (Nat → Nat → Int32)) (W : Nat) : Option ((Nat → Nat → Int32) × Nat) :=
  (if (I 60 3) < (I 60 2) then ((f_77 (I 60 3) I).bind fun q3 => ((f_79 q3 ).bind fun q4 => (if q4 = 0 then (lb_73_2   I W) else (let I5 := up I 60 3 ((I 60 3) + (1 : Int32))
  (c1  I5 W))))) else (lb_73_2   I W))
def lb_73_1 : (Nat → Nat → Int32) → Nat → Option ((Nat → Nat → Int32) × Nat) := fx (fun _ _ => none) (bd_73_1 ) FU
def f_73 (I : (Nat → Nat → Int32)) (W : Nat) : Option ((Nat → Nat → Int32) × Nat) :=
  (let I1 := up I 60 5 (1 : Int32)
  (lb_73_1   I1 W))
theorem tl_73_5 {d : Nat} {κ : KT} {cs : Nat × Nat} {J : Nat → Nat → Int64} (I : (Nat → Nat → Int32)) (W : Nat) (r : ((Nat → Nat → Int32) × Nat)) (h : lb_73_5   I W = some r) : tt (d + 5) me_73 bk_73_5 [none, none] [] (cw κ cs I J W) (.inl none) (cw κ cs r.1 J r.2) :=
  tt_R 1 (fun r => (.inl none)) (fun r => (cw κ cs r.1 J r.2)) h (fun _ => rfl)
theorem tl_73_4 {d : Nat} {κ : KT} {cs : Nat × Nat} {J : Nat → Nat → Int64} (c3 : Int32 → (Nat → Nat → Int32) → Nat → Option ((Nat → Nat → Int32) × Nat)) (k3 : ∀ (x1 : Int32) (I : (Nat → Nat → Int32)) (W : Nat) (r : ((Nat → Nat → Int32) × Nat)), c3 x1 I W = some r → tt (d + 5) me_73 bk_73_3 [some (.ref 60), some (.int x1)] [] (cw κ cs I J W) (.inl none) (cw κ cs r.1 J r.2)) (x1 : Int32) (I : (Nat → Nat → Int32)) (W : Nat) (r : ((Nat → Nat → Int32) × Nat)) (h : lb_73_4 c3 x1 I W = some r) : tt (d + 5) me_73 bk_73_4 [some (.ref 60), some (.int x1)] [] (cw κ cs I J W) (.inl none) (cw κ cs r.1 J r.2) :=
  tt_J (L1 := bk_73_3) 1 [some (.ref 60), some (.int (x1 + (1 : Int32)))] [] (cw κ cs I J W) (fun _ => rfl) (tt_F [some (.ref 60), some (.int (x1 + (1 : Int32)))] (And.intro rfl (And.intro rfl trivial)) (k3 (x1 + (1 : Int32)) I W _ h))
theorem tb_73_3 {d : Nat} {κ : KT} {cs : Nat × Nat} {J : Nat → Nat → Int64} (c3 : Int32 → (Nat → Nat → Int32) → Nat → Option ((Nat → Nat → Int32) × Nat)) (k3 : ∀ (x1 : Int32) (I : (Nat → Nat → Int32)) (W : Nat) (r : ((Nat → Nat → Int32) × Nat)), c3 x1 I W = some r → tt (d + 5) me_73 bk_73_3 [some (.ref 60), some (.int x1)] [] (cw κ cs I J W) (.inl none) (cw κ cs r.1 J r.2)) (x1 : Int32) (I : (Nat → Nat → Int32)) (W : Nat) (r : ((Nat → Nat → Int32) × Nat)) (h : bd_73_3  c3 x1 I W = some r) : tt (d + 5) me_73 bk_73_3 [some (.ref 60), some (.int x1)] [] (cw κ cs I J W) (.inl none) (cw κ cs r.1 J r.2) :=
  tt_I (L1 := (bk_73_3.drop 4)) (L2 := bk_73_5) 4 [some (.ref 60), some (.int x1)] [] (cw κ cs I J W) h (fun _ => rfl) (fun h =>
  tt_J (L1 := (bk_73_3.drop 7)) 2 [some (.ref 60), some (.int x1)] [.ref 17, .ref W] (cw κ cs I J W) (fun _ => rfl) (
  tt_Ane h (fun h =>
  tt_J (L1 := (bk_73_3.drop 11)) 2 [some (.ref 60), some (.int x1)] [.int x1, .ref 52, .ref 60] (cw κ cs I J W) (fun _ => rfl) (
  tt_Aa h fun h =>
  tt_Vs h fun h =>
  tt_C (L1 := (bk_73_3.drop 14)) 1 [some (.ref 60), some (.int x1)] [] (cw κ cs I J W) h (fun _ => rfl) (fun _ e => m_76 (d := d) e) fun q2 h =>
  tt_I (L1 := bk_73_4) (L2 := (bk_73_3.drop 15)) 1 [some (.ref 60), some (.int x1)] [] (cw κ cs I J W) h (fun _ => rfl) (fun h =>
  tt_F [some (.ref 60), some (.int x1)] (And.intro rfl (And.intro rfl trivial)) (tl_73_4 c3 k3 x1 I W _ h)) (fun h =>
  tt_J (L1 := (bk_73_3.drop 18)) 2 [some (.ref 60), some (.int x1)] [.int x1, .ref 52, .ref 60] (cw κ cs I J W) (fun _ => rfl) (
  tt_Aa h fun h =>
  tt_P (
  tt_F [some (.ref 60), some (.int x1)] (And.intro rfl (And.intro rfl trivial)) (tl_73_4 c3 k3 x1 I (1 + (x1).toNatClampNeg) _ h)))))) (fun h =>
  tt_F [none, none] trivial (tl_73_5   I W _ h)))) (fun h =>
  tt_F [none, none] trivial (tl_73_5   I W _ h))
theorem tn_73_3 {d : Nat} {κ : KT} {cs : Nat × Nat} {J : Nat → Nat → Int64} : ∀ (n : Nat) (x1 : Int32) (I : (Nat → Nat → Int32)) (W : Nat) (r : ((Nat → Nat → Int32) × Nat)), fx (fun _ _ _ => none) (bd_73_3 ) n x1 I W = some r → tt (d + 5) me_73 bk_73_3 [some (.ref 60), some (.int x1)] [] (cw κ cs I J W) (.inl none) (cw κ cs r.1 J r.2)
  | 0 => fun _ _ _ _ h => nomatch h
  | n + 1 => fun x1 I W r h => tb_73_3  (fx _ (bd_73_3 ) n) (tn_73_3  n) x1 I W r h
theorem tl_73_3 {d : Nat} {κ : KT} {cs : Nat × Nat} {J : Nat → Nat → Int64} (x1 : Int32) (I : (Nat → Nat → Int32)) (W : Nat) (r : ((Nat → Nat → Int32) × Nat)) (h : lb_73_3  x1 I W = some r) : tt (d + 5) me_73 bk_73_3 [some (.ref 60), some (.int x1)] [] (cw κ cs I J W) (.inl none) (cw κ cs r.1 J r.2) := tn_73_3  FU x1 I W r h
theorem tl_73_2 {d : Nat} {κ : KT} {cs : Nat × Nat} {J : Nat → Nat → Int64} (I : (Nat → Nat → Int32)) (W : Nat) (r : ((Nat → Nat → Int32) × Nat)) (h : lb_73_2   I W = some r) : tt (d + 5) me_73 bk_73_2 [some (.ref 60), none] [] (cw κ cs I J W) (.inl none) (cw κ cs r.1 J r.2) :=
  tt_J (L1 := bk_73_3) 1 [some (.ref 60), some (.int (0 : Int32))] [] (cw κ cs I J W) (fun _ => rfl) (tt_F [some (.ref 60), some (.int (0 : Int32))] (And.intro rfl (And.intro rfl trivial)) (tl_73_3  (0 : Int32) I W _ h))
theorem tb_73_1 {d : Nat} {κ : KT} {cs : Nat × Nat} {J : Nat → Nat → Int64} (c1 : (Nat → Nat → Int32) → Nat → Option ((Nat → Nat → Int32) × Nat)) (k1 : ∀ (I : (Nat → Nat → Int32)) (W : Nat) (r : ((Nat → Nat → Int32) × Nat)), c1  I W = some r → tt (d + 5) me_73 bk_73_1 [some (.ref 60), none] [] (cw κ cs I J W) (.inl none) (cw κ cs r.1 J r.2)) (I : (Nat → Nat → Int32)) (W : Nat) (r : ((Nat → Nat → Int32) × Nat)) (h : bd_73_1  c1  I W = some r) : tt (d + 5) me_73 bk_73_1 [some (.ref 60), none] [] (cw κ cs I J W) (.inl none) (cw κ cs r.1 J r.2) :=
  tt_I (L1 := (bk_73_1.drop 5)) (L2 := bk_73_2) 5 [some (.ref 60), none] [] (cw κ cs I J W) h (fun _ => rfl) (fun h =>
  tt_C (L1 := (bk_73_1.drop 9)) 4 [some (.ref 60), none] [] (cw κ cs I J W) h (fun _ => rfl) (fun _ e => m_77 (d := d + 4) e) fun q3 h =>
  tt_C (L1 := (bk_73_1.drop 10)) 1 [some (.ref 60), none] [] (cw κ cs I J W) h (fun _ => rfl) (fun _ e => m_79 (d := d + 4) e) fun q4 h =>
  tt_I (L1 := bk_73_2) (L2 := (bk_73_1.drop 11)) 1 [some (.ref 60), none] [] (cw κ cs I J W) h (fun _ => rfl) (fun h =>
  tt_F [some (.ref 60), none] (And.intro rfl trivial) (tl_73_2   I W _ h)) (fun h =>
  let I5 := up I 60 3 ((I 60 3) + (1 : Int32))
  tt_J (L1 := bk_73_1) 6 [some (.ref 60), none] [] (cw κ cs I5 J W) (fun _ => rfl) (tt_F [some (.ref 60), none] (And.intro rfl trivial) (k1  I5 W _ h)))) (fun h =>
  tt_F [some (.ref 60), none] (And.intro rfl trivial) (tl_73_2   I W _ h))
theorem tn_73_1 {d : Nat} {κ : KT} {cs : Nat × Nat} {J : Nat → Nat → Int64} : ∀ (n : Nat) (I : (Nat → Nat → Int32)) (W : Nat) (r : ((Nat → Nat → Int32) × Nat)), fx (fun _ _ => none) (bd_73_1 ) n  I W = some r → tt (d + 5) me_73 bk_73_1 [some (.ref 60), none] [] (cw κ cs I J W) (.inl none) (cw κ cs r.1 J r.2)
  | 0 => fun _ _ _ h => nomatch h
  | n + 1 => fun  I W r h => tb_73_1  (fx _ (bd_73_1 ) n) (tn_73_1  n)  I W r h
theorem tl_73_1 {d : Nat} {κ : KT} {cs : Nat × Nat} {J : Nat → Nat → Int64} (I : (Nat → Nat → Int32)) (W : Nat) (r : ((Nat → Nat → Int32) × Nat)) (h : lb_73_1   I W = some r) : tt (d + 5) me_73 bk_73_1 [some (.ref 60), none] [] (cw κ cs I J W) (.inl none) (cw κ cs r.1 J r.2) := tn_73_1  FU  I W r h
theorem m_73 {d : Nat} {κ : KT} {cs : Nat × Nat} {J : Nat → Nat → Int64} {I : (Nat → Nat → Int32)} {W : Nat} {r : ((Nat → Nat → Int32) × Nat)} (h : f_73  I W = some r) : tm (d + 5) 73 [.ref 60] (cw κ cs I J W) (.inl none) (cw κ cs r.1 J r.2) :=
  tm_of me_73 rfl (Nat.le_of_ble_eq_true rfl) (
  let I1 := up I 60 5 (1 : Int32)
  tt_J (L1 := bk_73_1) 2 [some (.ref 60), none] [] (cw κ cs I1 J W) (fun _ => rfl) (tt_F [some (.ref 60), none] (And.intro rfl trivial) (tl_73_1   I1 W _ h)))
/- 78 -/
def lb_78_3 (s0 : Int32) : Option Int32 :=
  (if (s0 = 0 ∨ s0 = 1) then some s0 else none)
def lb_78_1 : Option Int32 :=
  (lb_78_3  (1 : Int32) )
def f_78 (x0 : Int32) : Option Int32 :=
  (if x0 = (32 : Int32) then (lb_78_1   ) else (if x0 = (10 : Int32) then (lb_78_1   ) else (lb_78_3  (0 : Int32) )))
theorem tl_78_3 {d : Nat} {κ : KT} {cs : Nat × Nat} {I : Nat → Nat → Int32} {J : Nat → Nat → Int64} {W : Nat} (s0 : Int32) (r : Int32) (h : lb_78_3  s0  = some r) : tt d me_78 bk_78_3 [none] [.int s0] (cw κ cs I J W) (.inl (some (.int r))) (cw κ cs I J W) :=
  tt_B 1 (fun r => (.inl (some (.int r)))) (fun r => (cw κ cs I J W)) h (fun q => Or.inr (Or.inl ⟨rfl, q⟩)) (fun _ => rfl)
theorem tl_78_1 {d : Nat} {κ : KT} {cs : Nat × Nat} {I : Nat → Nat → Int32} {J : Nat → Nat → Int64} {W : Nat} (r : Int32) (h : lb_78_1    = some r) : tt d me_78 bk_78_1 [none] [] (cw κ cs I J W) (.inl (some (.int r))) (cw κ cs I J W) :=
  tt_J (L1 := bk_78_3) 1 [none] [.int (1 : Int32)] (cw κ cs I J W) (fun _ => rfl) (tt_F [none] trivial (tl_78_3  (1 : Int32)  _ h))
theorem m_78 {d : Nat} {κ : KT} {cs : Nat × Nat} {I : Nat → Nat → Int32} {J : Nat → Nat → Int64} {W : Nat} {x0 : Int32} {r : Int32} (h : f_78 x0  = some r) : tm d 78 [.int x0] (cw κ cs I J W) (.inl (some (.int r))) (cw κ cs I J W) :=
  tm_of me_78 rfl (Nat.le_of_ble_eq_true rfl) (
  tt_I (L1 := bk_78_1) (L2 := (bk_78_0.drop 3)) 3 [some (.int x0)] [] (cw κ cs I J W) h (fun _ => rfl) (fun h =>
  tt_F [none] trivial (tl_78_1    _ h)) (fun h =>
  tt_I (L1 := bk_78_1) (L2 := bk_78_2) 3 [some (.int x0)] [] (cw κ cs I J W) h (fun _ => rfl) (fun h =>
  tt_F [none] trivial (tl_78_1    _ h)) (fun h =>
  tt_J (L1 := bk_78_3) 0 [some (.int x0)] [.int (0 : Int32)] (cw κ cs I J W) (fun _ => rfl) (tt_F [none] trivial (tl_78_3  (0 : Int32)  _ h)))))
/- 72 -/
def lb_72_5 (I : (Nat → Nat → Int32)) (W : Nat) : Option ((Nat → Nat → Int32) × Nat) :=
  (some (I, W))
def lb_72_1 (I : (Nat → Nat → Int32)) (W : Nat) : Option ((Nat → Nat → Int32) × Nat) :=
  (let I1 := up I 60 4 (I 60 3)
  (let I2 := up I1 60 7 (0 : Int32)
  (let I3 := up I2 60 8 (0 : Int32)
  (if (I3 60 4) < (I3 60 2) then ((f_77 (I3 60 4) I3).bind fun q4 => ((f_79 q4 ).bind fun q5 => (if q5 = 0 then ((f_77 (I3 60 4) I3).bind fun q6 => ((f_80 q6 ).bind fun q7 => (if q7 = 0 then (let I8 := up I3 60 5 (3 : Int32)
  ((f_77 (I8 60 4) I8).bind fun q9 => (let I10 := up I8 60 8 q9
  (let I11 := up I10 60 3 ((I10 60 3) + (1 : Int32))
  (lb_72_5   I11 17))))) else ((f_74  I3).bind fun q12 => (lb_72_5   q12 17))))) else ((f_73  I3 17).bind fun q13 => (lb_72_5   q13.1 q13.2))))) else (let I14 := up I3 60 5 (0 : Int32)
  (lb_72_5   I14 17))))))
def bd_72_0 (c0 : (Nat → Nat → Int32) → Nat → Option ((Nat → Nat → Int32) × Nat)) (I : (Nat → Nat → Int32)) (W : Nat) : Option ((Nat → Nat → Int32) × Nat) :=
  (if (I 60 3) < (I 60 2) then ((f_77 (I 60 3) I).bind fun q15 => ((f_78 q15 ).bind fun q16 => (if q16 = 0 then (lb_72_1   I W) else (let I17 := up I 60 3 ((I 60 3) + (1 : Int32))
  (c0  I17 W))))) else (lb_72_1   I W))
def lb_72_0 : (Nat → Nat → Int32) → Nat → Option ((Nat → Nat → Int32) × Nat) := fx (fun _ _ => none) (bd_72_0 ) FU
def f_72 (I : (Nat → Nat → Int32)) (W : Nat) : Option ((Nat → Nat → Int32) × Nat) :=
  (lb_72_0   I W)
theorem tl_72_5 {d : Nat} {κ : KT} {cs : Nat × Nat} {J : Nat → Nat → Int64} (I : (Nat → Nat → Int32)) (W : Nat) (r : ((Nat → Nat → Int32) × Nat)) (h : lb_72_5   I W = some r) : tt (d + 6) me_72 bk_72_5 [none] [] (cw κ cs I J W) (.inl none) (cw κ cs r.1 J r.2) :=
  tt_R 1 (fun r => (.inl none)) (fun r => (cw κ cs r.1 J r.2)) h (fun _ => rfl)
theorem tl_72_1 {d : Nat} {κ : KT} {cs : Nat × Nat} {J : Nat → Nat → Int64} (I : (Nat → Nat → Int32)) (W : Nat) (r : ((Nat → Nat → Int32) × Nat)) (h : lb_72_1   I W = some r) : tt (d + 6) me_72 bk_72_1 [some (.ref 60)] [] (cw κ cs I J W) (.inl none) (cw κ cs r.1 J r.2) :=
  let I1 := up I 60 4 (I 60 3)
  tt_J (L1 := (bk_72_1.drop 6)) 5 [some (.ref 60)] [.ref 17, .ref 60] (cw κ cs I1 J W) (fun _ => rfl) (
  tt_P (
  let I2 := up I1 60 7 (0 : Int32)
  let I3 := up I2 60 8 (0 : Int32)
  tt_J (L1 := (bk_72_1.drop 13)) 5 [some (.ref 60)] [] (cw κ cs I3 J 17) (fun _ => rfl) (
  tt_I (L1 := bk_72_2) (L2 := (bk_72_1.drop 18)) 5 [some (.ref 60)] [] (cw κ cs I3 J 17) h (fun _ => rfl) (fun h =>
  tt_C (L1 := (bk_72_2.drop 4)) 4 [some (.ref 60)] [] (cw κ cs I3 J 17) h (fun _ => rfl) (fun _ e => m_77 (d := d + 5) e) fun q4 h =>
  tt_C (L1 := (bk_72_2.drop 5)) 1 [some (.ref 60)] [] (cw κ cs I3 J 17) h (fun _ => rfl) (fun _ e => m_79 (d := d + 5) e) fun q5 h =>
  tt_I (L1 := bk_72_3) (L2 := (bk_72_2.drop 6)) 1 [some (.ref 60)] [] (cw κ cs I3 J 17) h (fun _ => rfl) (fun h =>
  tt_C (L1 := (bk_72_3.drop 4)) 4 [some (.ref 60)] [] (cw κ cs I3 J 17) h (fun _ => rfl) (fun _ e => m_77 (d := d + 5) e) fun q6 h =>
  tt_C (L1 := (bk_72_3.drop 5)) 1 [some (.ref 60)] [] (cw κ cs I3 J 17) h (fun _ => rfl) (fun _ e => m_80 (d := d + 5) e) fun q7 h =>
  tt_I (L1 := bk_72_4) (L2 := (bk_72_3.drop 6)) 1 [some (.ref 60)] [] (cw κ cs I3 J 17) h (fun _ => rfl) (fun h =>
  let I8 := up I3 60 5 (3 : Int32)
  tt_C (L1 := (bk_72_4.drop 8)) 8 [some (.ref 60)] [.ref 60] (cw κ cs I8 J 17) h (fun _ => rfl) (fun _ e => m_77 (d := d + 5) e) fun q9 h =>
  let I10 := up I8 60 8 q9
  let I11 := up I10 60 3 ((I10 60 3) + (1 : Int32))
  tt_J (L1 := bk_72_5) 6 [some (.ref 60)] [] (cw κ cs I11 J 17) (fun _ => rfl) (
  tt_F [none] trivial (tl_72_5   I11 17 _ h))) (fun h =>
  tt_C (L1 := (bk_72_3.drop 8)) 2 [some (.ref 60)] [] (cw κ cs I3 J 17) h (fun _ => rfl) (fun _ e => m_74 (d := d + 4) e) fun q12 h =>
  tt_J (L1 := bk_72_5) 0 [some (.ref 60)] [] (cw κ cs q12 J 17) (fun _ => rfl) (tt_F [none] trivial (tl_72_5   q12 17 _ h)))) (fun h =>
  tt_C (L1 := (bk_72_2.drop 8)) 2 [some (.ref 60)] [] (cw κ cs I3 J 17) h (fun _ => rfl) (fun _ e => m_73 (d := d) e) fun q13 h =>
  tt_J (L1 := bk_72_5) 0 [some (.ref 60)] [] (cw κ cs q13.1 J q13.2) (fun _ => rfl) (tt_F [none] trivial (tl_72_5   q13.1 q13.2 _ h)))) (fun h =>
  let I14 := up I3 60 5 (0 : Int32)
  tt_J (L1 := bk_72_5) 3 [some (.ref 60)] [] (cw κ cs I14 J 17) (fun _ => rfl) (tt_F [none] trivial (tl_72_5   I14 17 _ h))))))
theorem tb_72_0 {d : Nat} {κ : KT} {cs : Nat × Nat} {J : Nat → Nat → Int64} (c0 : (Nat → Nat → Int32) → Nat → Option ((Nat → Nat → Int32) × Nat)) (k0 : ∀ (I : (Nat → Nat → Int32)) (W : Nat) (r : ((Nat → Nat → Int32) × Nat)), c0  I W = some r → tt (d + 6) me_72 bk_72_0 [some (.ref 60)] [] (cw κ cs I J W) (.inl none) (cw κ cs r.1 J r.2)) (I : (Nat → Nat → Int32)) (W : Nat) (r : ((Nat → Nat → Int32) × Nat)) (h : bd_72_0  c0  I W = some r) : tt (d + 6) me_72 bk_72_0 [some (.ref 60)] [] (cw κ cs I J W) (.inl none) (cw κ cs r.1 J r.2) :=
  tt_I (L1 := (bk_72_0.drop 5)) (L2 := bk_72_1) 5 [some (.ref 60)] [] (cw κ cs I J W) h (fun _ => rfl) (fun h =>
  tt_C (L1 := (bk_72_0.drop 9)) 4 [some (.ref 60)] [] (cw κ cs I J W) h (fun _ => rfl) (fun _ e => m_77 (d := d + 5) e) fun q15 h =>
  tt_C (L1 := (bk_72_0.drop 10)) 1 [some (.ref 60)] [] (cw κ cs I J W) h (fun _ => rfl) (fun _ e => m_78 (d := d + 5) e) fun q16 h =>
  tt_I (L1 := bk_72_1) (L2 := (bk_72_0.drop 11)) 1 [some (.ref 60)] [] (cw κ cs I J W) h (fun _ => rfl) (fun h =>
  tt_F [some (.ref 60)] (And.intro rfl trivial) (tl_72_1   I W _ h)) (fun h =>
  let I17 := up I 60 3 ((I 60 3) + (1 : Int32))
  tt_J (L1 := bk_72_0) 6 [some (.ref 60)] [] (cw κ cs I17 J W) (fun _ => rfl) (tt_F [some (.ref 60)] (And.intro rfl trivial) (k0  I17 W _ h)))) (fun h =>
  tt_F [some (.ref 60)] (And.intro rfl trivial) (tl_72_1   I W _ h))
theorem tn_72_0 {d : Nat} {κ : KT} {cs : Nat × Nat} {J : Nat → Nat → Int64} : ∀ (n : Nat) (I : (Nat → Nat → Int32)) (W : Nat) (r : ((Nat → Nat → Int32) × Nat)), fx (fun _ _ => none) (bd_72_0 ) n  I W = some r → tt (d + 6) me_72 bk_72_0 [some (.ref 60)] [] (cw κ cs I J W) (.inl none) (cw κ cs r.1 J r.2)
  | 0 => fun _ _ _ h => nomatch h
  | n + 1 => fun  I W r h => tb_72_0  (fx _ (bd_72_0 ) n) (tn_72_0  n)  I W r h
theorem tl_72_0 {d : Nat} {κ : KT} {cs : Nat × Nat} {J : Nat → Nat → Int64} (I : (Nat → Nat → Int32)) (W : Nat) (r : ((Nat → Nat → Int32) × Nat)) (h : lb_72_0   I W = some r) : tt (d + 6) me_72 bk_72_0 [some (.ref 60)] [] (cw κ cs I J W) (.inl none) (cw κ cs r.1 J r.2) := tn_72_0  FU  I W r h
theorem m_72 {d : Nat} {κ : KT} {cs : Nat × Nat} {J : Nat → Nat → Int64} {I : (Nat → Nat → Int32)} {W : Nat} {r : ((Nat → Nat → Int32) × Nat)} (h : f_72  I W = some r) : tm (d + 6) 72 [.ref 60] (cw κ cs I J W) (.inl none) (cw κ cs r.1 J r.2) :=
  tm_of me_72 rfl (Nat.le_of_ble_eq_true rfl) (
  tt_F [some (.ref 60)] (And.intro rfl trivial) (tl_72_0   I W _ h))
/- 71 -/
def f_71 (x1 : Int32) (I : (Nat → Nat → Int32)) (W : Nat) : Option ((Nat → Nat → Int32) × Nat) :=
  ((f_213 x1 (I 60 1) ).bind fun q1 => (let I2 := up I 60 2 q1
  (let I3 := up I2 60 3 (0 : Int32)
  ((f_72  I3 W).bind fun q4 => (some (q4.1, q4.2))))))
theorem m_71 {d : Nat} {κ : KT} {cs : Nat × Nat} {J : Nat → Nat → Int64} {x1 : Int32} {I : (Nat → Nat → Int32)} {W : Nat} {r : ((Nat → Nat → Int32) × Nat)} (h : f_71 x1 I W = some r) : tm (d + 7) 71 [.ref 60, .int x1] (cw κ cs I J W) (.inl none) (cw κ cs r.1 J r.2) :=
  tm_of me_71 rfl (Nat.le_of_ble_eq_true rfl) (
  tt_C (L1 := (bk_71_0.drop 5)) 5 [some (.ref 60), some (.int x1)] [.ref 60] (cw κ cs I J W) h (fun _ => rfl) (fun _ e => m_213 (d := d + 6) e) fun q1 h =>
  let I2 := up I 60 2 q1
  let I3 := up I2 60 3 (0 : Int32)
  tt_J (L1 := (bk_71_0.drop 9)) 3 [some (.ref 60), some (.int x1)] [] (cw κ cs I3 J W) (fun _ => rfl) (
  tt_C (L1 := (bk_71_0.drop 11)) 2 [some (.ref 60), some (.int x1)] [] (cw κ cs I3 J W) h (fun _ => rfl) (fun _ e => m_72 (d := d) e) fun q4 h =>
  tt_R 1 (fun r => (.inl none)) (fun r => (cw κ cs r.1 J r.2)) h (fun _ => rfl)))
/- 21 -/
def lb_21_5 (s0 : Int32) : Option Int32 :=
  (some s0)
def f_21 (x0 : Nat) : Option Int32 :=
  (if isw x0 ∧ isw 1 then (if x0 = 1 then (some (0 : Int32)) else (if isw x0 ∧ isw 2 then (if x0 = 2 then (some (1 : Int32)) else (if isw x0 ∧ isw 3 then (if x0 = 3 then (some (2 : Int32)) else (if isw x0 ∧ isw 4 then (if x0 = 4 then (lb_21_5  (3 : Int32) ) else (lb_21_5  ((-1) : Int32) )) else none)) else none)) else none)) else none)
theorem tl_21_5 {d : Nat} {κ : KT} {cs : Nat × Nat} {I : Nat → Nat → Int32} {J : Nat → Nat → Int64} {W : Nat} (s0 : Int32) (r : Int32) (h : lb_21_5  s0  = some r) : tt d me_21 bk_21_5 [none] [.int s0] (cw κ cs I J W) (.inl (some (.int r))) (cw κ cs I J W) :=
  tt_R 1 (fun r => (.inl (some (.int r)))) (fun r => (cw κ cs I J W)) h (fun _ => rfl)
theorem m_21 {d : Nat} {κ : KT} {cs : Nat × Nat} {I : Nat → Nat → Int32} {J : Nat → Nat → Int64} {W : Nat} {x0 : Nat} {r : Int32} (h : f_21 x0  = some r) : tm d 21 [.ref x0] (cw κ cs I J W) (.inl (some (.int r))) (cw κ cs I J W) :=
  tm_of me_21 rfl (Nat.le_of_ble_eq_true rfl) (
  tt_J (L1 := (bk_21_0.drop 2)) 1 [some (.ref x0)] [.ref 1, .ref x0] (cw κ cs I J W) (fun _ => rfl) (
  tt_Ane h (fun h =>
  tt_R 2 (fun r => (.inl (some (.int r)))) (fun r => (cw κ cs I J W)) h (fun _ => rfl)) (fun h =>
  tt_J (L1 := (bk_21_1.drop 2)) 1 [some (.ref x0)] [.ref 2, .ref x0] (cw κ cs I J W) (fun _ => rfl) (
  tt_Ane h (fun h =>
  tt_R 2 (fun r => (.inl (some (.int r)))) (fun r => (cw κ cs I J W)) h (fun _ => rfl)) (fun h =>
  tt_J (L1 := (bk_21_2.drop 2)) 1 [some (.ref x0)] [.ref 3, .ref x0] (cw κ cs I J W) (fun _ => rfl) (
  tt_Ane h (fun h =>
  tt_R 2 (fun r => (.inl (some (.int r)))) (fun r => (cw κ cs I J W)) h (fun _ => rfl)) (fun h =>
  tt_J (L1 := (bk_21_3.drop 2)) 1 [some (.ref x0)] [.ref 4, .ref x0] (cw κ cs I J W) (fun _ => rfl) (
  tt_Ane h (fun h =>
  tt_J (L1 := bk_21_5) 1 [some (.ref x0)] [.int (3 : Int32)] (cw κ cs I J W) (fun _ => rfl) (tt_F [none] trivial (tl_21_5  (3 : Int32)  _ h))) (fun h =>
  tt_J (L1 := bk_21_5) 0 [some (.ref x0)] [.int ((-1) : Int32)] (cw κ cs I J W) (fun _ => rfl) (tt_F [none] trivial (tl_21_5  ((-1) : Int32)  _ h)))))))))))
/- 22 -/
def lb_22_4 (s0 : Int32) : Option Int32 :=
  (some s0)
def f_22 (x0 : Nat) : Option Int32 :=
  (if isw x0 ∧ isw 8 then (if x0 = 8 then (some (0 : Int32)) else (if isw x0 ∧ isw 9 then (if x0 = 9 then (some (1 : Int32)) else (if isw x0 ∧ isw 10 then (if x0 = 10 then (lb_22_4  (2 : Int32) ) else (lb_22_4  ((-1) : Int32) )) else none)) else none)) else none)
theorem tl_22_4 {d : Nat} {κ : KT} {cs : Nat × Nat} {I : Nat → Nat → Int32} {J : Nat → Nat → Int64} {W : Nat} (s0 : Int32) (r : Int32) (h : lb_22_4  s0  = some r) : tt d me_22 bk_22_4 [none] [.int s0] (cw κ cs I J W) (.inl (some (.int r))) (cw κ cs I J W) :=
  tt_R 1 (fun r => (.inl (some (.int r)))) (fun r => (cw κ cs I J W)) h (fun _ => rfl)
theorem m_22 {d : Nat} {κ : KT} {cs : Nat × Nat} {I : Nat → Nat → Int32} {J : Nat → Nat → Int64} {W : Nat} {x0 : Nat} {r : Int32} (h : f_22 x0  = some r) : tm d 22 [.ref x0] (cw κ cs I J W) (.inl (some (.int r))) (cw κ cs I J W) :=
  tm_of me_22 rfl (Nat.le_of_ble_eq_true rfl) (
  tt_J (L1 := (bk_22_0.drop 2)) 1 [some (.ref x0)] [.ref 8, .ref x0] (cw κ cs I J W) (fun _ => rfl) (
  tt_Ane h (fun h =>
  tt_R 2 (fun r => (.inl (some (.int r)))) (fun r => (cw κ cs I J W)) h (fun _ => rfl)) (fun h =>
  tt_J (L1 := (bk_22_1.drop 2)) 1 [some (.ref x0)] [.ref 9, .ref x0] (cw κ cs I J W) (fun _ => rfl) (
  tt_Ane h (fun h =>
  tt_R 2 (fun r => (.inl (some (.int r)))) (fun r => (cw κ cs I J W)) h (fun _ => rfl)) (fun h =>
  tt_J (L1 := (bk_22_2.drop 2)) 1 [some (.ref x0)] [.ref 10, .ref x0] (cw κ cs I J W) (fun _ => rfl) (
  tt_Ane h (fun h =>
  tt_J (L1 := bk_22_4) 1 [some (.ref x0)] [.int (2 : Int32)] (cw κ cs I J W) (fun _ => rfl) (tt_F [none] trivial (tl_22_4  (2 : Int32)  _ h))) (fun h =>
  tt_J (L1 := bk_22_4) 0 [some (.ref x0)] [.int ((-1) : Int32)] (cw κ cs I J W) (fun _ => rfl) (tt_F [none] trivial (tl_22_4  ((-1) : Int32)  _ h)))))))))
/- 23 -/
def lb_23_3 (s0 : Int32) : Option Int32 :=
  (some s0)
def f_23 (x0 : Nat) : Option Int32 :=
  (if isw x0 ∧ isw 11 then (if x0 = 11 then (some (0 : Int32)) else (if isw x0 ∧ isw 12 then (if x0 = 12 then (lb_23_3  (1 : Int32) ) else (lb_23_3  ((-1) : Int32) )) else none)) else none)
theorem tl_23_3 {d : Nat} {κ : KT} {cs : Nat × Nat} {I : Nat → Nat → Int32} {J : Nat → Nat → Int64} {W : Nat} (s0 : Int32) (r : Int32) (h : lb_23_3  s0  = some r) : tt d me_23 bk_23_3 [none] [.int s0] (cw κ cs I J W) (.inl (some (.int r))) (cw κ cs I J W) :=
  tt_R 1 (fun r => (.inl (some (.int r)))) (fun r => (cw κ cs I J W)) h (fun _ => rfl)
theorem m_23 {d : Nat} {κ : KT} {cs : Nat × Nat} {I : Nat → Nat → Int32} {J : Nat → Nat → Int64} {W : Nat} {x0 : Nat} {r : Int32} (h : f_23 x0  = some r) : tm d 23 [.ref x0] (cw κ cs I J W) (.inl (some (.int r))) (cw κ cs I J W) :=
  tm_of me_23 rfl (Nat.le_of_ble_eq_true rfl) (
  tt_J (L1 := (bk_23_0.drop 2)) 1 [some (.ref x0)] [.ref 11, .ref x0] (cw κ cs I J W) (fun _ => rfl) (
  tt_Ane h (fun h =>
  tt_R 2 (fun r => (.inl (some (.int r)))) (fun r => (cw κ cs I J W)) h (fun _ => rfl)) (fun h =>
  tt_J (L1 := (bk_23_1.drop 2)) 1 [some (.ref x0)] [.ref 12, .ref x0] (cw κ cs I J W) (fun _ => rfl) (
  tt_Ane h (fun h =>
  tt_J (L1 := bk_23_3) 1 [some (.ref x0)] [.int (1 : Int32)] (cw κ cs I J W) (fun _ => rfl) (tt_F [none] trivial (tl_23_3  (1 : Int32)  _ h))) (fun h =>
  tt_J (L1 := bk_23_3) 0 [some (.ref x0)] [.int ((-1) : Int32)] (cw κ cs I J W) (fun _ => rfl) (tt_F [none] trivial (tl_23_3  ((-1) : Int32)  _ h)))))))
/- 41 -/
def lb_41_1 (I : (Nat → Nat → Int32)) : Option (Nat → Nat → Int32) :=
  (some I)
def f_41 (x1 : Int32) (I : (Nat → Nat → Int32)) : Option (Nat → Nat → Int32) :=
  (if (I 67 9) < 0 then (lb_41_1   I) else (if (I 67 9) < (nI 7) then (if ex_in (I 67 9) 7 then let I1 := up I 71 ((I 67 9)).toNatClampNeg (vp_nar .boolean x1)
  (lb_41_1   I1) else none) else (lb_41_1   I)))
theorem tl_41_1 {d : Nat} {κ : KT} {cs : Nat × Nat} {J : Nat → Nat → Int64} {W : Nat} (I : (Nat → Nat → Int32)) (r : (Nat → Nat → Int32)) (h : lb_41_1   I = some r) : tt d me_41 bk_41_1 [none, none] [] (cw κ cs I J W) (.inl none) (cw κ cs r J W) :=
  tt_R 1 (fun r => (.inl none)) (fun r => (cw κ cs r J W)) h (fun _ => rfl)
theorem m_41 {d : Nat} {κ : KT} {cs : Nat × Nat} {J : Nat → Nat → Int64} {W : Nat} {x1 : Int32} {I : (Nat → Nat → Int32)} {r : (Nat → Nat → Int32)} (h : f_41 x1 I = some r) : tm d 41 [.ref 67, .int x1] (cw κ cs I J W) (.inl none) (cw κ cs r J W) :=
  tm_of me_41 rfl (Nat.le_of_ble_eq_true rfl) (
  tt_I (L1 := bk_41_1) (L2 := (bk_41_0.drop 3)) 3 [some (.ref 67), some (.int x1)] [] (cw κ cs I J W) h (fun _ => rfl) (fun h =>
  tt_F [none, none] trivial (tl_41_1   I _ h)) (fun h =>
  tt_I (L1 := (bk_41_0.drop 9)) (L2 := bk_41_1) 6 [some (.ref 67), some (.int x1)] [] (cw κ cs I J W) h (fun _ => rfl) (fun h =>
  let I1 := up I 71 ((I 67 9)).toNatClampNeg (vp_nar .boolean x1)
  tt_J (L1 := (bk_41_0.drop 14)) 4 [some (.ref 67), some (.int x1)] [.int x1, .int (I 67 9), .ref 71] (cw κ cs I J W) (fun _ => rfl) (
  tt_Wz rfl (Nat.le_of_ble_eq_true rfl) h fun h =>
  tt_F [none, none] trivial (tl_41_1   I1 _ h))) (fun h =>
  tt_F [none, none] trivial (tl_41_1   I _ h))))
/- 27 -/
def f_27 (I : (Nat → Nat → Int32)) : Option (Nat → Nat → Int32) :=
  (let I1 := up I 67 12 (1 : Int32)
  (let I2 := up I1 67 11 (1 : Int32)
  (let I3 := up I2 67 10 (0 : Int32)
  (some I3))))
theorem m_27 {d : Nat} {κ : KT} {cs : Nat × Nat} {J : Nat → Nat → Int64} {W : Nat} {I : (Nat → Nat → Int32)} {r : (Nat → Nat → Int32)} (h : f_27  I = some r) : tm d 27 [.ref 67] (cw κ cs I J W) (.inl none) (cw κ cs r J W) :=
  tm_of me_27 rfl (Nat.le_of_ble_eq_true rfl) (
  let I1 := up I 67 12 (1 : Int32)
  let I2 := up I1 67 11 (1 : Int32)
  tt_J (L1 := (bk_27_0.drop 6)) 5 [some (.ref 67)] [] (cw κ cs I2 J W) (fun _ => rfl) (
  let I3 := up I2 67 10 (0 : Int32)
  tt_R 4 (fun r => (.inl none)) (fun r => (cw κ cs r J W)) h (fun _ => rfl)))
/- 26 -/
def f_26 (I : (Nat → Nat → Int32)) : Option (Nat → Nat → Int32) :=
  ((f_41 (0 : Int32) I).bind fun q1 => ((f_27  q1).bind fun q2 => (some q2)))
theorem m_26 {d : Nat} {κ : KT} {cs : Nat × Nat} {J : Nat → Nat → Int64} {W : Nat} {I : (Nat → Nat → Int32)} {r : (Nat → Nat → Int32)} (h : f_26  I = some r) : tm (d + 1) 26 [.ref 67] (cw κ cs I J W) (.inl none) (cw κ cs r J W) :=
  tm_of me_26 rfl (Nat.le_of_ble_eq_true rfl) (
  tt_C (L1 := (bk_26_0.drop 3)) 3 [some (.ref 67)] [] (cw κ cs I J W) h (fun _ => rfl) (fun _ e => m_41 (d := d) e) fun q1 h =>
  tt_C (L1 := (bk_26_0.drop 5)) 2 [some (.ref 67)] [] (cw κ cs q1 J W) h (fun _ => rfl) (fun _ e => m_27 (d := d) e) fun q2 h =>
  tt_R 1 (fun r => (.inl none)) (fun r => (cw κ cs r J W)) h (fun _ => rfl))
/- 35 -/
def f_35 (I : (Nat → Nat → Int32)) (W : Nat) : Option Int32 :=
  (if isw W ∧ isw 14 then (if W = 14 then (some ((-7) : Int32)) else (if isw W ∧ isw 15 then (if W = 15 then (some ((-8) : Int32)) else (if (I 60 8) = (42 : Int32) then (some ((-14) : Int32)) else (if (I 60 8) = (43 : Int32) then (some ((-12) : Int32)) else (if (I 60 8) = (44 : Int32) then (some (0 : Int32)) else (if (I 60 8) = (45 : Int32) then (some ((-13) : Int32)) else (if (I 60 8) = (46 : Int32) then (some (0 : Int32)) else (if (I 60 8) = (47 : Int32) then (some ((-15) : Int32)) else (if (I 60 8) = (48 : Int32) then (some (0 : Int32)) else (if (I 60 8) = (49 : Int32) then (some (0 : Int32)) else (if (I 60 8) = (50 : Int32) then (some (0 : Int32)) else (if (I 60 8) = (51 : Int32) then (some (0 : Int32)) else (if (I 60 8) = (52 : Int32) then (some (0 : Int32)) else (if (I 60 8) = (53 : Int32) then (some (0 : Int32)) else (if (I 60 8) = (54 : Int32) then (some (0 : Int32)) else (if (I 60 8) = (55 : Int32) then (some (0 : Int32)) else (if (I 60 8) = (56 : Int32) then (some (0 : Int32)) else (if (I 60 8) = (57 : Int32) then (some (0 : Int32)) else (if (I 60 8) = (58 : Int32) then (some (0 : Int32)) else (if (I 60 8) = (59 : Int32) then (some (0 : Int32)) else (if (I 60 8) = (60 : Int32) then (some ((-10) : Int32)) else (if (I 60 8) = (61 : Int32) then (some ((-11) : Int32)) else (some (0 : Int32))))))))))))))))))))))) else none)) else none)
theorem m_35 {d : Nat} {κ : KT} {cs : Nat × Nat} {J : Nat → Nat → Int64} {I : (Nat → Nat → Int32)} {W : Nat} {r : Int32} (h : f_35  I W = some r) : tm d 35 [.ref 67] (cw κ cs I J W) (.inl (some (.int r))) (cw κ cs I J W) :=
  tm_of me_35 rfl (Nat.le_of_ble_eq_true rfl) (
  tt_J (L1 := (bk_35_0.drop 4)) 3 [some (.ref 67)] [.ref 14, .ref W] (cw κ cs I J W) (fun _ => rfl) (
  tt_Ane h (fun h =>
  tt_R 2 (fun r => (.inl (some (.int r)))) (fun r => (cw κ cs I J W)) h (fun _ => rfl)) (fun h =>
  tt_J (L1 := (bk_35_1.drop 4)) 3 [some (.ref 67)] [.ref 15, .ref W] (cw κ cs I J W) (fun _ => rfl) (
  tt_Ane h (fun h =>
  tt_R 2 (fun r => (.inl (some (.int r)))) (fun r => (cw κ cs I J W)) h (fun _ => rfl)) (fun h =>
  tt_J (L1 := (bk_35_2.drop 3)) 2 [some (.ref 67)] [.int (I 60 8)] (cw κ cs I J W) (fun _ => rfl) (
  tt_T (L1 := bk_35_7) (42 : Int32) h (fun _ => rfl) (fun h =>
  tt_R 2 (fun r => (.inl (some (.int r)))) (fun r => (cw κ cs I J W)) h (fun _ => rfl)) (fun e0 h =>
  tt_T (L1 := bk_35_5) (43 : Int32) h (fun _ => rfl) (fun h =>
  tt_R 2 (fun r => (.inl (some (.int r)))) (fun r => (cw κ cs I J W)) h (fun _ => rfl)) (fun e1 h =>
  tt_T (L1 := bk_35_9) (44 : Int32) h (fun _ => rfl) (fun h =>
  tt_R 2 (fun r => (.inl (some (.int r)))) (fun r => (cw κ cs I J W)) h (fun _ => rfl)) (fun e2 h =>
  tt_T (L1 := bk_35_6) (45 : Int32) h (fun _ => rfl) (fun h =>
  tt_R 2 (fun r => (.inl (some (.int r)))) (fun r => (cw κ cs I J W)) h (fun _ => rfl)) (fun e3 h =>
  tt_T (L1 := bk_35_9) (46 : Int32) h (fun _ => rfl) (fun h =>
  tt_R 2 (fun r => (.inl (some (.int r)))) (fun r => (cw κ cs I J W)) h (fun _ => rfl)) (fun e4 h =>
  tt_T (L1 := bk_35_8) (47 : Int32) h (fun _ => rfl) (fun h =>
  tt_R 2 (fun r => (.inl (some (.int r)))) (fun r => (cw κ cs I J W)) h (fun _ => rfl)) (fun e5 h =>
  tt_T (L1 := bk_35_9) (48 : Int32) h (fun _ => rfl) (fun h =>
  tt_R 2 (fun r => (.inl (some (.int r)))) (fun r => (cw κ cs I J W)) h (fun _ => rfl)) (fun e6 h =>
  tt_T (L1 := bk_35_9) (49 : Int32) h (fun _ => rfl) (fun h =>
  tt_R 2 (fun r => (.inl (some (.int r)))) (fun r => (cw κ cs I J W)) h (fun _ => rfl)) (fun e7 h =>
  tt_T (L1 := bk_35_9) (50 : Int32) h (fun _ => rfl) (fun h =>
  tt_R 2 (fun r => (.inl (some (.int r)))) (fun r => (cw κ cs I J W)) h (fun _ => rfl)) (fun e8 h =>
  tt_T (L1 := bk_35_9) (51 : Int32) h (fun _ => rfl) (fun h =>
  tt_R 2 (fun r => (.inl (some (.int r)))) (fun r => (cw κ cs I J W)) h (fun _ => rfl)) (fun e9 h =>
  tt_T (L1 := bk_35_9) (52 : Int32) h (fun _ => rfl) (fun h =>
  tt_R 2 (fun r => (.inl (some (.int r)))) (fun r => (cw κ cs I J W)) h (fun _ => rfl)) (fun e10 h =>
  tt_T (L1 := bk_35_9) (53 : Int32) h (fun _ => rfl) (fun h =>
  tt_R 2 (fun r => (.inl (some (.int r)))) (fun r => (cw κ cs I J W)) h (fun _ => rfl)) (fun e11 h =>
  tt_T (L1 := bk_35_9) (54 : Int32) h (fun _ => rfl) (fun h =>
  tt_R 2 (fun r => (.inl (some (.int r)))) (fun r => (cw κ cs I J W)) h (fun _ => rfl)) (fun e12 h =>
  tt_T (L1 := bk_35_9) (55 : Int32) h (fun _ => rfl) (fun h =>
  tt_R 2 (fun r => (.inl (some (.int r)))) (fun r => (cw κ cs I J W)) h (fun _ => rfl)) (fun e13 h =>
  tt_T (L1 := bk_35_9) (56 : Int32) h (fun _ => rfl) (fun h =>
  tt_R 2 (fun r => (.inl (some (.int r)))) (fun r => (cw κ cs I J W)) h (fun _ => rfl)) (fun e14 h =>
  tt_T (L1 := bk_35_9) (57 : Int32) h (fun _ => rfl) (fun h =>
  tt_R 2 (fun r => (.inl (some (.int r)))) (fun r => (cw κ cs I J W)) h (fun _ => rfl)) (fun e15 h =>
  tt_T (L1 := bk_35_9) (58 : Int32) h (fun _ => rfl) (fun h =>
  tt_R 2 (fun r => (.inl (some (.int r)))) (fun r => (cw κ cs I J W)) h (fun _ => rfl)) (fun e16 h =>
  tt_T (L1 := bk_35_9) (59 : Int32) h (fun _ => rfl) (fun h =>
  tt_R 2 (fun r => (.inl (some (.int r)))) (fun r => (cw κ cs I J W)) h (fun _ => rfl)) (fun e17 h =>
  tt_T (L1 := bk_35_3) (60 : Int32) h (fun _ => rfl) (fun h =>
  tt_R 2 (fun r => (.inl (some (.int r)))) (fun r => (cw κ cs I J W)) h (fun _ => rfl)) (fun e18 h =>
  tt_T (L1 := bk_35_4) (61 : Int32) h (fun _ => rfl) (fun h =>
  tt_R 2 (fun r => (.inl (some (.int r)))) (fun r => (cw κ cs I J W)) h (fun _ => rfl)) (fun e19 h =>
  tt_T0 (by have e0 := nev e0 (show ((42 : Int32)).toInt = 42 from rfl); have e1 := nev e1 (show ((43 : Int32)).toInt = 43 from rfl); have e2 := nev e2 (show ((44 : Int32)).toInt = 44 from rfl); have e3 := nev e3 (show ((45 : Int32)).toInt = 45 from rfl); have e4 := nev e4 (show ((46 : Int32)).toInt = 46 from rfl); have e5 := nev e5 (show ((47 : Int32)).toInt = 47 from rfl); have e6 := nev e6 (show ((48 : Int32)).toInt = 48 from rfl); have e7 := nev e7 (show ((49 : Int32)).toInt = 49 from rfl); have e8 := nev e8 (show ((50 : Int32)).toInt = 50 from rfl); have e9 := nev e9 (show ((51 : Int32)).toInt = 51 from rfl); have e10 := nev e10 (show ((52 : Int32)).toInt = 52 from rfl); have e11 := nev e11 (show ((53 : Int32)).toInt = 53 from rfl); have e12 := nev e12 (show ((54 : Int32)).toInt = 54 from rfl); have e13 := nev e13 (show ((55 : Int32)).toInt = 55 from rfl); have e14 := nev e14 (show ((56 : Int32)).toInt = 56 from rfl); have e15 := nev e15 (show ((57 : Int32)).toInt = 57 from rfl); have e16 := nev e16 (show ((58 : Int32)).toInt = 58 from rfl); have e17 := nev e17 (show ((59 : Int32)).toInt = 59 from rfl); have e18 := nev e18 (show ((60 : Int32)).toInt = 60 from rfl); have e19 := nev e19 (show ((61 : Int32)).toInt = 61 from rfl); omega) (
  tt_R 2 (fun r => (.inl (some (.int r)))) (fun r => (cw κ cs I J W)) h (fun _ => rfl))))))))))))))))))))))))))))
/- 40 -/
def lb_40_2 (s0 : Int32) (I : (Nat → Nat → Int32)) : Option Int32 :=
  (if (s0 = 0 ∨ s0 = 1) then some s0 else none)
def lb_40_1 (I : (Nat → Nat → Int32)) : Option Int32 :=
  (lb_40_2  (0 : Int32) I)
def f_40 (I : (Nat → Nat → Int32)) : Option Int32 :=
  (if (I 67 9) < 0 then (lb_40_1   I) else (if (I 67 9) < (nI 7) then (if ex_in (I 67 9) 7 then (if (I 71 ((I 67 9)).toNatClampNeg) = 0 then (lb_40_1   I) else (lb_40_2  (1 : Int32) I)) else none) else (lb_40_1   I)))
theorem tl_40_2 {d : Nat} {κ : KT} {cs : Nat × Nat} {J : Nat → Nat → Int64} {W : Nat} (s0 : Int32) (I : (Nat → Nat → Int32)) (r : Int32) (h : lb_40_2  s0 I = some r) : tt d me_40 bk_40_2 [none] [.int s0] (cw κ cs I J W) (.inl (some (.int r))) (cw κ cs I J W) :=
  tt_B 1 (fun r => (.inl (some (.int r)))) (fun r => (cw κ cs I J W)) h (fun q => Or.inr (Or.inl ⟨rfl, q⟩)) (fun _ => rfl)
theorem tl_40_1 {d : Nat} {κ : KT} {cs : Nat × Nat} {J : Nat → Nat → Int64} {W : Nat} (I : (Nat → Nat → Int32)) (r : Int32) (h : lb_40_1   I = some r) : tt d me_40 bk_40_1 [none] [] (cw κ cs I J W) (.inl (some (.int r))) (cw κ cs I J W) :=
  tt_J (L1 := bk_40_2) 0 [none] [.int (0 : Int32)] (cw κ cs I J W) (fun _ => rfl) (tt_F [none] trivial (tl_40_2  (0 : Int32) I _ h))
theorem m_40 {d : Nat} {κ : KT} {cs : Nat × Nat} {J : Nat → Nat → Int64} {W : Nat} {I : (Nat → Nat → Int32)} {r : Int32} (h : f_40  I = some r) : tm d 40 [.ref 67] (cw κ cs I J W) (.inl (some (.int r))) (cw κ cs I J W) :=
  tm_of me_40 rfl (Nat.le_of_ble_eq_true rfl) (
  tt_I (L1 := bk_40_1) (L2 := (bk_40_0.drop 3)) 3 [some (.ref 67)] [] (cw κ cs I J W) h (fun _ => rfl) (fun h =>
  tt_F [none] trivial (tl_40_1   I _ h)) (fun h =>
  tt_I (L1 := (bk_40_0.drop 9)) (L2 := bk_40_1) 6 [some (.ref 67)] [] (cw κ cs I J W) h (fun _ => rfl) (fun h =>
  tt_J (L1 := (bk_40_0.drop 13)) 3 [some (.ref 67)] [.int (I 67 9), .ref 71] (cw κ cs I J W) (fun _ => rfl) (
  tt_Qz rfl h fun h =>
  tt_I (L1 := bk_40_1) (L2 := (bk_40_0.drop 15)) 1 [some (.ref 67)] [] (cw κ cs I J W) h (fun _ => rfl) (fun h =>
  tt_F [none] trivial (tl_40_1   I _ h)) (fun h =>
  tt_J (L1 := bk_40_2) 1 [some (.ref 67)] [.int (1 : Int32)] (cw κ cs I J W) (fun _ => rfl) (tt_F [none] trivial (tl_40_2  (1 : Int32) I _ h))))) (fun h =>
  tt_F [none] trivial (tl_40_1   I _ h))))
/- 36 -/
def f_36 (x0 : Int32) : Option Int32 :=
  (if x0 = ((-15) : Int32) then (some (6 : Int32)) else (if x0 = ((-14) : Int32) then (some (6 : Int32)) else (if x0 = ((-13) : Int32) then (some (5 : Int32)) else (if x0 = ((-12) : Int32) then (some (5 : Int32)) else (if x0 = ((-11) : Int32) then (some (4 : Int32)) else (if x0 = ((-10) : Int32) then (some (4 : Int32)) else (if x0 = ((-9) : Int32) then (some (3 : Int32)) else (if x0 = ((-8) : Int32) then (some (2 : Int32)) else (if x0 = ((-7) : Int32) then (some (1 : Int32)) else (some (0 : Int32)))))))))))
theorem m_36 {d : Nat} {κ : KT} {cs : Nat × Nat} {I : Nat → Nat → Int32} {J : Nat → Nat → Int64} {W : Nat} {x0 : Int32} {r : Int32} (h : f_36 x0  = some r) : tm d 36 [.int x0] (cw κ cs I J W) (.inl (some (.int r))) (cw κ cs I J W) :=
  tm_of me_36 rfl (Nat.le_of_ble_eq_true rfl) (
  tt_J (L1 := (bk_36_0.drop 1)) 0 [some (.int x0)] [.int x0] (cw κ cs I J W) (fun _ => rfl) (
  tt_T (L1 := bk_36_6) ((-15) : Int32) h (fun _ => rfl) (fun h =>
  tt_R 2 (fun r => (.inl (some (.int r)))) (fun r => (cw κ cs I J W)) h (fun _ => rfl)) (fun e0 h =>
  tt_T (L1 := bk_36_6) ((-14) : Int32) h (fun _ => rfl) (fun h =>
  tt_R 2 (fun r => (.inl (some (.int r)))) (fun r => (cw κ cs I J W)) h (fun _ => rfl)) (fun e1 h =>
  tt_T (L1 := bk_36_5) ((-13) : Int32) h (fun _ => rfl) (fun h =>
  tt_R 2 (fun r => (.inl (some (.int r)))) (fun r => (cw κ cs I J W)) h (fun _ => rfl)) (fun e2 h =>
  tt_T (L1 := bk_36_5) ((-12) : Int32) h (fun _ => rfl) (fun h =>
  tt_R 2 (fun r => (.inl (some (.int r)))) (fun r => (cw κ cs I J W)) h (fun _ => rfl)) (fun e3 h =>
  tt_T (L1 := bk_36_4) ((-11) : Int32) h (fun _ => rfl) (fun h =>
  tt_R 2 (fun r => (.inl (some (.int r)))) (fun r => (cw κ cs I J W)) h (fun _ => rfl)) (fun e4 h =>
  tt_T (L1 := bk_36_4) ((-10) : Int32) h (fun _ => rfl) (fun h =>
  tt_R 2 (fun r => (.inl (some (.int r)))) (fun r => (cw κ cs I J W)) h (fun _ => rfl)) (fun e5 h =>
  tt_T (L1 := bk_36_3) ((-9) : Int32) h (fun _ => rfl) (fun h =>
  tt_R 2 (fun r => (.inl (some (.int r)))) (fun r => (cw κ cs I J W)) h (fun _ => rfl)) (fun e6 h =>
  tt_T (L1 := bk_36_2) ((-8) : Int32) h (fun _ => rfl) (fun h =>
  tt_R 2 (fun r => (.inl (some (.int r)))) (fun r => (cw κ cs I J W)) h (fun _ => rfl)) (fun e7 h =>
  tt_T (L1 := bk_36_1) ((-7) : Int32) h (fun _ => rfl) (fun h =>
  tt_R 2 (fun r => (.inl (some (.int r)))) (fun r => (cw κ cs I J W)) h (fun _ => rfl)) (fun e8 h =>
  tt_T0 (by have e0 := nev e0 (show (((-15) : Int32)).toInt = -15 from rfl); have e1 := nev e1 (show (((-14) : Int32)).toInt = -14 from rfl); have e2 := nev e2 (show (((-13) : Int32)).toInt = -13 from rfl); have e3 := nev e3 (show (((-12) : Int32)).toInt = -12 from rfl); have e4 := nev e4 (show (((-11) : Int32)).toInt = -11 from rfl); have e5 := nev e5 (show (((-10) : Int32)).toInt = -10 from rfl); have e6 := nev e6 (show (((-9) : Int32)).toInt = -9 from rfl); have e7 := nev e7 (show (((-8) : Int32)).toInt = -8 from rfl); have e8 := nev e8 (show (((-7) : Int32)).toInt = -7 from rfl); omega) (
  tt_R 2 (fun r => (.inl (some (.int r)))) (fun r => (cw κ cs I J W)) h (fun _ => rfl)))))))))))))
/- 39 -/
def lb_39_1 (I : (Nat → Nat → Int32)) : Option (Nat → Nat → Int32) :=
  (some I)
def f_39 (x1 : Int32) (I : (Nat → Nat → Int32)) : Option (Nat → Nat → Int32) :=
  (if (I 67 7) < (nI 500) then (if ex_in (I 67 7) 500 then let I1 := up I 68 ((I 67 7)).toNatClampNeg x1
  (let I2 := up I1 67 7 ((I1 67 7) + (1 : Int32))
  (lb_39_1   I2)) else none) else (lb_39_1   I))
theorem tl_39_1 {d : Nat} {κ : KT} {cs : Nat × Nat} {J : Nat → Nat → Int64} {W : Nat} (I : (Nat → Nat → Int32)) (r : (Nat → Nat → Int32)) (h : lb_39_1   I = some r) : tt d me_39 bk_39_1 [none, none] [] (cw κ cs I J W) (.inl none) (cw κ cs r J W) :=
  tt_R 1 (fun r => (.inl none)) (fun r => (cw κ cs r J W)) h (fun _ => rfl)
theorem m_39 {d : Nat} {κ : KT} {cs : Nat × Nat} {J : Nat → Nat → Int64} {W : Nat} {x1 : Int32} {I : (Nat → Nat → Int32)} {r : (Nat → Nat → Int32)} (h : f_39 x1 I = some r) : tm d 39 [.ref 67, .int x1] (cw κ cs I J W) (.inl none) (cw κ cs r J W) :=
  tm_of me_39 rfl (Nat.le_of_ble_eq_true rfl) (
  tt_I (L1 := (bk_39_0.drop 6)) (L2 := bk_39_1) 6 [some (.ref 67), some (.int x1)] [] (cw κ cs I J W) h (fun _ => rfl) (fun h =>
  let I1 := up I 68 ((I 67 7)).toNatClampNeg x1
  tt_J (L1 := (bk_39_0.drop 11)) 4 [some (.ref 67), some (.int x1)] [.int x1, .int (I 67 7), .ref 68] (cw κ cs I J W) (fun _ => rfl) (
  tt_Wi rfl (Nat.le_of_ble_eq_true rfl) h fun h =>
  let I2 := up I1 67 7 ((I1 67 7) + (1 : Int32))
  tt_J (L1 := bk_39_1) 5 [some (.ref 67), some (.int x1)] [] (cw κ cs I2 J W) (fun _ => rfl) (tt_F [none, none] trivial (tl_39_1   I2 _ h)))) (fun h =>
  tt_F [none, none] trivial (tl_39_1   I _ h)))
/- 38 -/
def lb_38_1 (I : (Nat → Nat → Int32)) : Option (Nat → Nat → Int32) :=
  (some I)
def bd_38_0 (c0 : Int32 → (Nat → Nat → Int32) → Option (Nat → Nat → Int32)) (x1 : Int32) (I : (Nat → Nat → Int32)) : Option (Nat → Nat → Int32) :=
  (if 0 < (I 67 8) then ((f_36 (atf (I 70) 100 ((I 67 8) - (1 : Int32))) ).bind fun q1 => (if q1 < x1 then (lb_38_1   I) else (let I2 := up I 67 8 ((I 67 8) - (1 : Int32))
  ((f_39 (atf (I2 70) 100 (I2 67 8)) I2).bind fun q3 => (c0 x1 q3))))) else (lb_38_1   I))
def lb_38_0 : Int32 → (Nat → Nat → Int32) → Option (Nat → Nat → Int32) := fx (fun _ _ => none) (bd_38_0 ) FU
def f_38 (x1 : Int32) (I : (Nat → Nat → Int32)) : Option (Nat → Nat → Int32) :=
  (lb_38_0  x1 I)
theorem tl_38_1 {d : Nat} {κ : KT} {cs : Nat × Nat} {J : Nat → Nat → Int64} {W : Nat} (I : (Nat → Nat → Int32)) (r : (Nat → Nat → Int32)) (h : lb_38_1   I = some r) : tt (d + 1) me_38 bk_38_1 [none, none] [] (cw κ cs I J W) (.inl none) (cw κ cs r J W) :=
  tt_R 1 (fun r => (.inl none)) (fun r => (cw κ cs r J W)) h (fun _ => rfl)
theorem tb_38_0 {d : Nat} {κ : KT} {cs : Nat × Nat} {J : Nat → Nat → Int64} {W : Nat} (c0 : Int32 → (Nat → Nat → Int32) → Option (Nat → Nat → Int32)) (k0 : ∀ (x1 : Int32) (I : (Nat → Nat → Int32)) (r : (Nat → Nat → Int32)), c0 x1 I = some r → tt (d + 1) me_38 bk_38_0 [some (.ref 67), some (.int x1)] [] (cw κ cs I J W) (.inl none) (cw κ cs r J W)) (x1 : Int32) (I : (Nat → Nat → Int32)) (r : (Nat → Nat → Int32)) (h : bd_38_0  c0 x1 I = some r) : tt (d + 1) me_38 bk_38_0 [some (.ref 67), some (.int x1)] [] (cw κ cs I J W) (.inl none) (cw κ cs r J W) :=
  tt_I (L1 := (bk_38_0.drop 3)) (L2 := bk_38_1) 3 [some (.ref 67), some (.int x1)] [] (cw κ cs I J W) h (fun _ => rfl) (fun h =>
  tt_K (L1 := (bk_38_0.drop 10)) 7 [some (.ref 67), some (.int x1)] [] (cw κ cs I J W) (fun _ => rfl) (m_at 70 100 ((I 67 8) - (1 : Int32)) (Nat.le_of_ble_eq_true rfl) rfl)
  (tt_C (L1 := (bk_38_0.drop 11)) 1 [some (.ref 67), some (.int x1)] [] (cw κ cs I J W) h (fun _ => rfl) (fun _ e => m_36 (d := d) e) fun q1 h =>
  tt_I (L1 := bk_38_1) (L2 := (bk_38_0.drop 13)) 2 [some (.ref 67), some (.int x1)] [] (cw κ cs I J W) h (fun _ => rfl) (fun h =>
  tt_F [none, none] trivial (tl_38_1   I _ h)) (fun h =>
  let I2 := up I 67 8 ((I 67 8) - (1 : Int32))
  tt_K (L1 := (bk_38_0.drop 25)) 12 [some (.ref 67), some (.int x1)] [.ref 67] (cw κ cs I2 J W) (fun _ => rfl) (m_at 70 100 (I2 67 8) (Nat.le_of_ble_eq_true rfl) rfl)
  (tt_C (L1 := (bk_38_0.drop 26)) 1 [some (.ref 67), some (.int x1)] [] (cw κ cs I2 J W) h (fun _ => rfl) (fun _ e => m_39 (d := d) e) fun q3 h =>
  tt_J (L1 := bk_38_0) 0 [some (.ref 67), some (.int x1)] [] (cw κ cs q3 J W) (fun _ => rfl) (tt_F [some (.ref 67), some (.int x1)] (And.intro rfl (And.intro rfl trivial)) (k0 x1 q3 _ h)))))) (fun h =>
  tt_F [none, none] trivial (tl_38_1   I _ h))
theorem tn_38_0 {d : Nat} {κ : KT} {cs : Nat × Nat} {J : Nat → Nat → Int64} {W : Nat} : ∀ (n : Nat) (x1 : Int32) (I : (Nat → Nat → Int32)) (r : (Nat → Nat → Int32)), fx (fun _ _ => none) (bd_38_0 ) n x1 I = some r → tt (d + 1) me_38 bk_38_0 [some (.ref 67), some (.int x1)] [] (cw κ cs I J W) (.inl none) (cw κ cs r J W)
  | 0 => fun _ _ _ h => nomatch h
  | n + 1 => fun x1 I r h => tb_38_0  (fx _ (bd_38_0 ) n) (tn_38_0  n) x1 I r h
theorem tl_38_0 {d : Nat} {κ : KT} {cs : Nat × Nat} {J : Nat → Nat → Int64} {W : Nat} (x1 : Int32) (I : (Nat → Nat → Int32)) (r : (Nat → Nat → Int32)) (h : lb_38_0  x1 I = some r) : tt (d + 1) me_38 bk_38_0 [some (.ref 67), some (.int x1)] [] (cw κ cs I J W) (.inl none) (cw κ cs r J W) := tn_38_0  FU x1 I r h
theorem m_38 {d : Nat} {κ : KT} {cs : Nat × Nat} {J : Nat → Nat → Int64} {W : Nat} {x1 : Int32} {I : (Nat → Nat → Int32)} {r : (Nat → Nat → Int32)} (h : f_38 x1 I = some r) : tm (d + 1) 38 [.ref 67, .int x1] (cw κ cs I J W) (.inl none) (cw κ cs r J W) :=
  tm_of me_38 rfl (Nat.le_of_ble_eq_true rfl) (
  tt_F [some (.ref 67), some (.int x1)] (And.intro rfl (And.intro rfl trivial)) (tl_38_0  x1 I _ h))
/- 37 -/
def lb_37_1 (I : (Nat → Nat → Int32)) : Option (Nat → Nat → Int32) :=
  (some I)
def f_37 (x1 : Int32) (I : (Nat → Nat → Int32)) : Option (Nat → Nat → Int32) :=
  (if (I 67 8) < (nI 100) then (if ex_in (I 67 8) 100 then let I1 := up I 70 ((I 67 8)).toNatClampNeg x1
  (let I2 := up I1 67 8 ((I1 67 8) + (1 : Int32))
  (lb_37_1   I2)) else none) else (lb_37_1   I))
theorem tl_37_1 {d : Nat} {κ : KT} {cs : Nat × Nat} {J : Nat → Nat → Int64} {W : Nat} (I : (Nat → Nat → Int32)) (r : (Nat → Nat → Int32)) (h : lb_37_1   I = some r) : tt d me_37 bk_37_1 [none, none] [] (cw κ cs I J W) (.inl none) (cw κ cs r J W) :=
  tt_R 1 (fun r => (.inl none)) (fun r => (cw κ cs r J W)) h (fun _ => rfl)
theorem m_37 {d : Nat} {κ : KT} {cs : Nat × Nat} {J : Nat → Nat → Int64} {W : Nat} {x1 : Int32} {I : (Nat → Nat → Int32)} {r : (Nat → Nat → Int32)} (h : f_37 x1 I = some r) : tm d 37 [.ref 67, .int x1] (cw κ cs I J W) (.inl none) (cw κ cs r J W) :=
  tm_of me_37 rfl (Nat.le_of_ble_eq_true rfl) (
  tt_I (L1 := (bk_37_0.drop 6)) (L2 := bk_37_1) 6 [some (.ref 67), some (.int x1)] [] (cw κ cs I J W) h (fun _ => rfl) (fun h =>
  let I1 := up I 70 ((I 67 8)).toNatClampNeg x1
  tt_J (L1 := (bk_37_0.drop 11)) 4 [some (.ref 67), some (.int x1)] [.int x1, .int (I 67 8), .ref 70] (cw κ cs I J W) (fun _ => rfl) (
  tt_Wi rfl (Nat.le_of_ble_eq_true rfl) h fun h =>
  let I2 := up I1 67 8 ((I1 67 8) + (1 : Int32))
  tt_J (L1 := bk_37_1) 5 [some (.ref 67), some (.int x1)] [] (cw κ cs I2 J W) (fun _ => rfl) (tt_F [none, none] trivial (tl_37_1   I2 _ h)))) (fun h =>
  tt_F [none, none] trivial (tl_37_1   I _ h)))
/- 212 -/
def lb_212_2 (s0 : Int32) : Option Int32 :=
  (some s0)
def f_212 (x0 : Int32) (x1 : Int32) : Option Int32 :=
  (if x0 < x1 then (lb_212_2  x1 ) else (lb_212_2  x0 ))
theorem tl_212_2 {d : Nat} {κ : KT} {cs : Nat × Nat} {I : Nat → Nat → Int32} {J : Nat → Nat → Int64} {W : Nat} (s0 : Int32) (r : Int32) (h : lb_212_2  s0  = some r) : tt d me_212 bk_212_2 [none, none] [.int s0] (cw κ cs I J W) (.inl (some (.int r))) (cw κ cs I J W) :=
  tt_R 1 (fun r => (.inl (some (.int r)))) (fun r => (cw κ cs I J W)) h (fun _ => rfl)
theorem m_212 {d : Nat} {κ : KT} {cs : Nat × Nat} {I : Nat → Nat → Int32} {J : Nat → Nat → Int64} {W : Nat} {x0 : Int32} {x1 : Int32} {r : Int32} (h : f_212 x0 x1  = some r) : tm d 212 [.int x0, .int x1] (cw κ cs I J W) (.inl (some (.int r))) (cw κ cs I J W) :=
  tm_of me_212 rfl (Nat.le_of_ble_eq_true rfl) (
  tt_I (L1 := bk_212_1) (L2 := (bk_212_0.drop 3)) 3 [some (.int x0), some (.int x1)] [] (cw κ cs I J W) h (fun _ => rfl) (fun h =>
  tt_J (L1 := bk_212_2) 0 [some (.int x0), some (.int x1)] [.int x1] (cw κ cs I J W) (fun _ => rfl) (tt_F [none, none] trivial (tl_212_2  x1  _ h))) (fun h =>
  tt_J (L1 := bk_212_2) 1 [some (.int x0), some (.int x1)] [.int x0] (cw κ cs I J W) (fun _ => rfl) (tt_F [none, none] trivial (tl_212_2  x0  _ h))))
/- 34 -/
def f_34 (I : (Nat → Nat → Int32)) : Option (Int32 × (Nat → Nat → Int32)) :=
  (if 0 < (I 67 9) then ((f_36 ((-7) : Int32) ).bind fun q1 => ((f_38 q1 I).bind fun q2 => ((f_212 ((q2 67 8) - (1 : Int32)) (0 : Int32) ).bind fun q3 => (let I4 := up q2 67 8 q3
  (let I5 := up I4 67 9 ((I4 67 9) - (1 : Int32))
  (some ((0 : Int32), I5))))))) else (some ((1 : Int32), I)))
theorem m_34 {d : Nat} {κ : KT} {cs : Nat × Nat} {J : Nat → Nat → Int64} {W : Nat} {I : (Nat → Nat → Int32)} {r : (Int32 × (Nat → Nat → Int32))} (h : f_34  I = some r) : tm (d + 2) 34 [.ref 67] (cw κ cs I J W) (.inl (some (.int r.1))) (cw κ cs r.2 J W) :=
  tm_of me_34 rfl (Nat.le_of_ble_eq_true rfl) (
  tt_I (L1 := bk_34_1) (L2 := (bk_34_0.drop 3)) 3 [some (.ref 67)] [] (cw κ cs I J W) h (fun _ => rfl) (fun h =>
  tt_C (L1 := (bk_34_1.drop 3)) 3 [some (.ref 67)] [.ref 67] (cw κ cs I J W) h (fun _ => rfl) (fun _ e => m_36 (d := d + 1) e) fun q1 h =>
  tt_C (L1 := (bk_34_1.drop 4)) 1 [some (.ref 67)] [] (cw κ cs I J W) h (fun _ => rfl) (fun _ e => m_38 (d := d) e) fun q2 h =>
  tt_C (L1 := (bk_34_1.drop 11)) 7 [some (.ref 67)] [.ref 67] (cw κ cs q2 J W) h (fun _ => rfl) (fun _ e => m_212 (d := d + 1) e) fun q3 h =>
  let I4 := up q2 67 8 q3
  let I5 := up I4 67 9 ((I4 67 9) - (1 : Int32))
  tt_J (L1 := (bk_34_1.drop 18)) 6 [some (.ref 67)] [] (cw κ cs I5 J W) (fun _ => rfl) (
  tt_R 2 (fun r => (.inl (some (.int r.1)))) (fun r => (cw κ cs r.2 J W)) h (fun _ => rfl))) (fun h =>
  tt_R 2 (fun r => (.inl (some (.int r.1)))) (fun r => (cw κ cs r.2 J W)) h (fun _ => rfl)))
/- 33 -/
def f_33 (I : (Nat → Nat → Int32)) : Option (Int32 × (Nat → Nat → Int32)) :=
  (if 0 < (I 67 9) then (some ((1 : Int32), I)) else ((f_36 ((-7) : Int32) ).bind fun q1 => ((f_38 q1 I).bind fun q2 => (let I3 := up q2 67 13 (1 : Int32)
  (some ((0 : Int32), I3))))))
theorem m_33 {d : Nat} {κ : KT} {cs : Nat × Nat} {J : Nat → Nat → Int64} {W : Nat} {I : (Nat → Nat → Int32)} {r : (Int32 × (Nat → Nat → Int32))} (h : f_33  I = some r) : tm (d + 2) 33 [.ref 67] (cw κ cs I J W) (.inl (some (.int r.1))) (cw κ cs r.2 J W) :=
  tm_of me_33 rfl (Nat.le_of_ble_eq_true rfl) (
  tt_I (L1 := (bk_33_0.drop 3)) (L2 := bk_33_1) 3 [some (.ref 67)] [] (cw κ cs I J W) h (fun _ => rfl) (fun h =>
  tt_R 2 (fun r => (.inl (some (.int r.1)))) (fun r => (cw κ cs r.2 J W)) h (fun _ => rfl)) (fun h =>
  tt_C (L1 := (bk_33_1.drop 3)) 3 [some (.ref 67)] [.ref 67] (cw κ cs I J W) h (fun _ => rfl) (fun _ e => m_36 (d := d + 1) e) fun q1 h =>
  tt_C (L1 := (bk_33_1.drop 4)) 1 [some (.ref 67)] [] (cw κ cs I J W) h (fun _ => rfl) (fun _ e => m_38 (d := d) e) fun q2 h =>
  let I3 := up q2 67 13 (1 : Int32)
  tt_R 5 (fun r => (.inl (some (.int r.1)))) (fun r => (cw κ cs r.2 J W)) h (fun _ => rfl)))
/- 32 -/
def lb_32_9 (I : (Nat → Nat → Int32)) (W : Nat) : Option (Int32 × (Nat → Nat → Int32)) :=
  (some ((0 : Int32), I))
def lb_32_7 (I : (Nat → Nat → Int32)) (W : Nat) : Option (Int32 × (Nat → Nat → Int32)) :=
  ((f_41 (0 : Int32) I).bind fun q8 => (lb_32_9   q8 W))
def lb_32_6 (x1 : Int32) (I : (Nat → Nat → Int32)) (W : Nat) : Option (Int32 × (Nat → Nat → Int32)) :=
  ((f_36 x1 ).bind fun q4 => ((f_38 q4 I).bind fun q5 => ((f_37 x1 q5).bind fun q6 => ((f_27  q6).bind fun q7 => (if x1 = ((-8) : Int32) then (lb_32_7   q7 W) else (if x1 = ((-7) : Int32) then (lb_32_7   q7 W) else (let I9 := up q7 67 11 (0 : Int32)
  (lb_32_9   I9 W))))))))
def lb_32_4 (x1 : Int32) (I : (Nat → Nat → Int32)) (W : Nat) : Option (Int32 × (Nat → Nat → Int32)) :=
  ((f_40  I).bind fun q2 => (if q2 = 0 then ((f_41 (1 : Int32) I).bind fun q3 => (lb_32_6  x1 q3 W)) else (some ((1 : Int32), I))))
def f_32 (I : (Nat → Nat → Int32)) (W : Nat) : Option (Int32 × (Nat → Nat → Int32)) :=
  (if (I 60 8) = (59 : Int32) then ((f_33  I).bind fun q11 => (some (q11.1, q11.2))) else (if (I 60 8) = (41 : Int32) then ((f_34  I).bind fun q10 => (some (q10.1, q10.2))) else ((f_35  I W).bind fun q1 => (if q1 = 0 then (some ((1 : Int32), I)) else (if q1 = ((-10) : Int32) then (lb_32_4  q1 I W) else (if q1 = ((-11) : Int32) then (lb_32_4  q1 I W) else (lb_32_6  q1 I W)))))))
theorem tl_32_9 {d : Nat} {κ : KT} {cs : Nat × Nat} {J : Nat → Nat → Int64} (I : (Nat → Nat → Int32)) (W : Nat) (r : (Int32 × (Nat → Nat → Int32))) (h : lb_32_9   I W = some r) : tt (d + 3) me_32 bk_32_9 [none, none] [] (cw κ cs I J W) (.inl (some (.int r.1))) (cw κ cs r.2 J W) :=
  tt_R 2 (fun r => (.inl (some (.int r.1)))) (fun r => (cw κ cs r.2 J W)) h (fun _ => rfl)
theorem tl_32_7 {d : Nat} {κ : KT} {cs : Nat × Nat} {J : Nat → Nat → Int64} (I : (Nat → Nat → Int32)) (W : Nat) (r : (Int32 × (Nat → Nat → Int32))) (h : lb_32_7   I W = some r) : tt (d + 3) me_32 bk_32_7 [some (.ref 67), none] [] (cw κ cs I J W) (.inl (some (.int r.1))) (cw κ cs r.2 J W) :=
  tt_C (L1 := (bk_32_7.drop 3)) 3 [some (.ref 67), none] [] (cw κ cs I J W) h (fun _ => rfl) (fun _ e => m_41 (d := d + 2) e) fun q8 h =>
  tt_J (L1 := bk_32_9) 0 [some (.ref 67), none] [] (cw κ cs q8 J W) (fun _ => rfl) (tt_F [none, none] trivial (tl_32_9   q8 W _ h))
theorem tl_32_6 {d : Nat} {κ : KT} {cs : Nat × Nat} {J : Nat → Nat → Int64} (x1 : Int32) (I : (Nat → Nat → Int32)) (W : Nat) (r : (Int32 × (Nat → Nat → Int32))) (h : lb_32_6  x1 I W = some r) : tt (d + 3) me_32 bk_32_6 [some (.ref 67), some (.int x1)] [] (cw κ cs I J W) (.inl (some (.int r.1))) (cw κ cs r.2 J W) :=
  tt_C (L1 := (bk_32_6.drop 3)) 3 [some (.ref 67), some (.int x1)] [.ref 67] (cw κ cs I J W) h (fun _ => rfl) (fun _ e => m_36 (d := d + 2) e) fun q4 h =>
  tt_C (L1 := (bk_32_6.drop 4)) 1 [some (.ref 67), some (.int x1)] [] (cw κ cs I J W) h (fun _ => rfl) (fun _ e => m_38 (d := d + 1) e) fun q5 h =>
  tt_C (L1 := (bk_32_6.drop 7)) 3 [some (.ref 67), some (.int x1)] [] (cw κ cs q5 J W) h (fun _ => rfl) (fun _ e => m_37 (d := d + 2) e) fun q6 h =>
  tt_C (L1 := (bk_32_6.drop 9)) 2 [some (.ref 67), some (.int x1)] [] (cw κ cs q6 J W) h (fun _ => rfl) (fun _ e => m_27 (d := d + 2) e) fun q7 h =>
  tt_I (L1 := bk_32_7) (L2 := (bk_32_6.drop 12)) 3 [some (.ref 67), some (.int x1)] [] (cw κ cs q7 J W) h (fun _ => rfl) (fun h =>
  tt_F [some (.ref 67), none] (And.intro rfl trivial) (tl_32_7   q7 W _ h)) (fun h =>
  tt_I (L1 := bk_32_7) (L2 := bk_32_8) 3 [some (.ref 67), some (.int x1)] [] (cw κ cs q7 J W) h (fun _ => rfl) (fun h =>
  tt_F [some (.ref 67), none] (And.intro rfl trivial) (tl_32_7   q7 W _ h)) (fun h =>
  let I9 := up q7 67 11 (0 : Int32)
  tt_J (L1 := bk_32_9) 2 [some (.ref 67), some (.int x1)] [] (cw κ cs I9 J W) (fun _ => rfl) (tt_F [none, none] trivial (tl_32_9   I9 W _ h))))
theorem tl_32_4 {d : Nat} {κ : KT} {cs : Nat × Nat} {J : Nat → Nat → Int64} (x1 : Int32) (I : (Nat → Nat → Int32)) (W : Nat) (r : (Int32 × (Nat → Nat → Int32))) (h : lb_32_4  x1 I W = some r) : tt (d + 3) me_32 bk_32_4 [some (.ref 67), some (.int x1)] [] (cw κ cs I J W) (.inl (some (.int r.1))) (cw κ cs r.2 J W) :=
  tt_C (L1 := (bk_32_4.drop 2)) 2 [some (.ref 67), some (.int x1)] [] (cw κ cs I J W) h (fun _ => rfl) (fun _ e => m_40 (d := d + 2) e) fun q2 h =>
  tt_I (L1 := bk_32_5) (L2 := (bk_32_4.drop 3)) 1 [some (.ref 67), some (.int x1)] [] (cw κ cs I J W) h (fun _ => rfl) (fun h =>
  tt_C (L1 := bk_32_6) 3 [some (.ref 67), some (.int x1)] [] (cw κ cs I J W) h (fun _ => rfl) (fun _ e => m_41 (d := d + 2) e) fun q3 h =>
  tt_F [some (.ref 67), some (.int x1)] (And.intro rfl (And.intro rfl trivial)) (tl_32_6  x1 q3 W _ h)) (fun h =>
  tt_R 2 (fun r => (.inl (some (.int r.1)))) (fun r => (cw κ cs r.2 J W)) h (fun _ => rfl))
theorem m_32 {d : Nat} {κ : KT} {cs : Nat × Nat} {J : Nat → Nat → Int64} {I : (Nat → Nat → Int32)} {W : Nat} {r : (Int32 × (Nat → Nat → Int32))} (h : f_32  I W = some r) : tm (d + 3) 32 [.ref 67] (cw κ cs I J W) (.inl (some (.int r.1))) (cw κ cs r.2 J W) :=
  tm_of me_32 rfl (Nat.le_of_ble_eq_true rfl) (
  tt_I (L1 := (bk_32_0.drop 5)) (L2 := bk_32_1) 5 [some (.ref 67), none] [] (cw κ cs I J W) h (fun _ => rfl) (fun h =>
  tt_C (L1 := (bk_32_0.drop 7)) 2 [some (.ref 67), none] [] (cw κ cs I J W) h (fun _ => rfl) (fun _ e => m_33 (d := d) e) fun q11 h =>
  tt_R 1 (fun r => (.inl (some (.int r.1)))) (fun r => (cw κ cs r.2 J W)) h (fun _ => rfl)) (fun h =>
  tt_I (L1 := (bk_32_1.drop 5)) (L2 := bk_32_2) 5 [some (.ref 67), none] [] (cw κ cs I J W) h (fun _ => rfl) (fun h =>
  tt_C (L1 := (bk_32_1.drop 7)) 2 [some (.ref 67), none] [] (cw κ cs I J W) h (fun _ => rfl) (fun _ e => m_34 (d := d) e) fun q10 h =>
  tt_R 1 (fun r => (.inl (some (.int r.1)))) (fun r => (cw κ cs r.2 J W)) h (fun _ => rfl)) (fun h =>
  tt_C (L1 := (bk_32_2.drop 2)) 2 [some (.ref 67), none] [] (cw κ cs I J W) h (fun _ => rfl) (fun _ e => m_35 (d := d + 2) e) fun q1 h =>
  tt_I (L1 := (bk_32_2.drop 5)) (L2 := bk_32_3) 3 [some (.ref 67), some (.int q1)] [] (cw κ cs I J W) h (fun _ => rfl) (fun h =>
  tt_R 2 (fun r => (.inl (some (.int r.1)))) (fun r => (cw κ cs r.2 J W)) h (fun _ => rfl)) (fun h =>
  tt_I (L1 := bk_32_4) (L2 := (bk_32_3.drop 3)) 3 [some (.ref 67), some (.int q1)] [] (cw κ cs I J W) h (fun _ => rfl) (fun h =>
  tt_F [some (.ref 67), some (.int q1)] (And.intro rfl (And.intro rfl trivial)) (tl_32_4  q1 I W _ h)) (fun h =>
  tt_I (L1 := bk_32_4) (L2 := bk_32_6) 3 [some (.ref 67), some (.int q1)] [] (cw κ cs I J W) h (fun _ => rfl) (fun h =>
  tt_F [some (.ref 67), some (.int q1)] (And.intro rfl (And.intro rfl trivial)) (tl_32_4  q1 I W _ h)) (fun h =>
  tt_F [some (.ref 67), some (.int q1)] (And.intro rfl (And.intro rfl trivial)) (tl_32_6  q1 I W _ h)))))))
/- 31 -/
def f_31 (I : (Nat → Nat → Int32)) (W : Nat) : Option (Int32 × (Nat → Nat → Int32)) :=
  (if isw W then (if (I W 1) = 0 then (some ((3 : Int32), I)) else (if isw W then ((f_39 (I W 1) I).bind fun q1 => (let I2 := up q1 67 12 (0 : Int32)
  (some ((0 : Int32), I2)))) else none)) else none)
theorem m_31 {d : Nat} {κ : KT} {cs : Nat × Nat} {J : Nat → Nat → Int64} {I : (Nat → Nat → Int32)} {W : Nat} {r : (Int32 × (Nat → Nat → Int32))} (h : f_31  I W = some r) : tm (d + 1) 31 [.ref 67] (cw κ cs I J W) (.inl (some (.int r.1))) (cw κ cs r.2 J W) :=
  tm_of me_31 rfl (Nat.le_of_ble_eq_true rfl) (
  tt_J (L1 := (bk_31_0.drop 3)) 2 [some (.ref 67)] [.ref W] (cw κ cs I J W) (fun _ => rfl) (
  tt_V h fun h =>
  tt_I (L1 := (bk_31_0.drop 5)) (L2 := bk_31_1) 1 [some (.ref 67)] [] (cw κ cs I J W) h (fun _ => rfl) (fun h =>
  tt_R 2 (fun r => (.inl (some (.int r.1)))) (fun r => (cw κ cs r.2 J W)) h (fun _ => rfl)) (fun h =>
  tt_J (L1 := (bk_31_1.drop 4)) 3 [some (.ref 67)] [.ref W, .ref 67] (cw κ cs I J W) (fun _ => rfl) (
  tt_V h fun h =>
  tt_C (L1 := (bk_31_1.drop 6)) 1 [some (.ref 67)] [] (cw κ cs I J W) h (fun _ => rfl) (fun _ e => m_39 (d := d) e) fun q1 h =>
  let I2 := up q1 67 12 (0 : Int32)
  tt_R 5 (fun r => (.inl (some (.int r.1)))) (fun r => (cw κ cs r.2 J W)) h (fun _ => rfl)))))
/- 75 -/
def lb_75_2 (s0 : Int32) (I : (Nat → Nat → Int32)) : Option Int32 :=
  (if (s0 = 0 ∨ s0 = 1) then some s0 else none)
def lb_75_1 (I : (Nat → Nat → Int32)) : Option Int32 :=
  (lb_75_2  (0 : Int32) I)
def f_75 (I : (Nat → Nat → Int32)) : Option Int32 :=
  (if (I 60 5) = (2 : Int32) then (if (4 : Int32) < ((I 60 3) - (I 60 4)) then (lb_75_2  (1 : Int32) I) else (lb_75_1   I)) else (lb_75_1   I))
theorem tl_75_2 {d : Nat} {κ : KT} {cs : Nat × Nat} {J : Nat → Nat → Int64} {W : Nat} (s0 : Int32) (I : (Nat → Nat → Int32)) (r : Int32) (h : lb_75_2  s0 I = some r) : tt d me_75 bk_75_2 [none] [.int s0] (cw κ cs I J W) (.inl (some (.int r))) (cw κ cs I J W) :=
  tt_B 1 (fun r => (.inl (some (.int r)))) (fun r => (cw κ cs I J W)) h (fun q => Or.inr (Or.inl ⟨rfl, q⟩)) (fun _ => rfl)
theorem tl_75_1 {d : Nat} {κ : KT} {cs : Nat × Nat} {J : Nat → Nat → Int64} {W : Nat} (I : (Nat → Nat → Int32)) (r : Int32) (h : lb_75_1   I = some r) : tt d me_75 bk_75_1 [none] [] (cw κ cs I J W) (.inl (some (.int r))) (cw κ cs I J W) :=
  tt_J (L1 := bk_75_2) 0 [none] [.int (0 : Int32)] (cw κ cs I J W) (fun _ => rfl) (tt_F [none] trivial (tl_75_2  (0 : Int32) I _ h))
theorem m_75 {d : Nat} {κ : KT} {cs : Nat × Nat} {J : Nat → Nat → Int64} {W : Nat} {I : (Nat → Nat → Int32)} {r : Int32} (h : f_75  I = some r) : tm d 75 [.ref 60] (cw κ cs I J W) (.inl (some (.int r))) (cw κ cs I J W) :=
  tm_of me_75 rfl (Nat.le_of_ble_eq_true rfl) (
  tt_I (L1 := (bk_75_0.drop 4)) (L2 := bk_75_1) 4 [some (.ref 60)] [] (cw κ cs I J W) h (fun _ => rfl) (fun h =>
  tt_I (L1 := (bk_75_0.drop 11)) (L2 := bk_75_1) 7 [some (.ref 60)] [] (cw κ cs I J W) h (fun _ => rfl) (fun h =>
  tt_J (L1 := bk_75_2) 1 [some (.ref 60)] [.int (1 : Int32)] (cw κ cs I J W) (fun _ => rfl) (tt_F [none] trivial (tl_75_2  (1 : Int32) I _ h))) (fun h =>
  tt_F [none] trivial (tl_75_1   I _ h))) (fun h =>
  tt_F [none] trivial (tl_75_1   I _ h)))
/- 30 -/
def f_30 (I : (Nat → Nat → Int32)) : Option (Int32 × (Nat → Nat → Int32)) :=
  ((f_75  I).bind fun q1 => (if q1 = 0 then ((f_39 (I 60 7) I).bind fun q2 => (let I3 := up q2 67 12 (0 : Int32)
  (some ((0 : Int32), I3)))) else (some ((2 : Int32), I))))
theorem m_30 {d : Nat} {κ : KT} {cs : Nat × Nat} {J : Nat → Nat → Int64} {W : Nat} {I : (Nat → Nat → Int32)} {r : (Int32 × (Nat → Nat → Int32))} (h : f_30  I = some r) : tm (d + 1) 30 [.ref 67] (cw κ cs I J W) (.inl (some (.int r.1))) (cw κ cs r.2 J W) :=
  tm_of me_30 rfl (Nat.le_of_ble_eq_true rfl) (
  tt_C (L1 := (bk_30_0.drop 3)) 3 [some (.ref 67)] [] (cw κ cs I J W) h (fun _ => rfl) (fun _ e => m_75 (d := d) e) fun q1 h =>
  tt_I (L1 := bk_30_1) (L2 := (bk_30_0.drop 4)) 1 [some (.ref 67)] [] (cw κ cs I J W) h (fun _ => rfl) (fun h =>
  tt_C (L1 := (bk_30_1.drop 5)) 5 [some (.ref 67)] [] (cw κ cs I J W) h (fun _ => rfl) (fun _ e => m_39 (d := d) e) fun q2 h =>
  let I3 := up q2 67 12 (0 : Int32)
  tt_R 5 (fun r => (.inl (some (.int r.1)))) (fun r => (cw κ cs r.2 J W)) h (fun _ => rfl)) (fun h =>
  tt_R 2 (fun r => (.inl (some (.int r.1)))) (fun r => (cw κ cs r.2 J W)) h (fun _ => rfl)))
/- 29 -/
def f_29 (I : (Nat → Nat → Int32)) : Option (Int32 × (Nat → Nat → Int32)) :=
  (if (I 67 10) < (6 : Int32) then (let I1 := up I 67 10 ((I 67 10) + (1 : Int32))
  ((f_37 ((-9) : Int32) I1).bind fun q2 => (some ((0 : Int32), q2)))) else (some ((2 : Int32), I)))
theorem m_29 {d : Nat} {κ : KT} {cs : Nat × Nat} {J : Nat → Nat → Int64} {W : Nat} {I : (Nat → Nat → Int32)} {r : (Int32 × (Nat → Nat → Int32))} (h : f_29  I = some r) : tm (d + 1) 29 [.ref 67] (cw κ cs I J W) (.inl (some (.int r.1))) (cw κ cs r.2 J W) :=
  tm_of me_29 rfl (Nat.le_of_ble_eq_true rfl) (
  tt_I (L1 := bk_29_1) (L2 := (bk_29_0.drop 4)) 4 [some (.ref 67)] [] (cw κ cs I J W) h (fun _ => rfl) (fun h =>
  let I1 := up I 67 10 ((I 67 10) + (1 : Int32))
  tt_C (L1 := (bk_29_1.drop 9)) 9 [some (.ref 67)] [] (cw κ cs I1 J W) h (fun _ => rfl) (fun _ e => m_37 (d := d) e) fun q2 h =>
  tt_R 2 (fun r => (.inl (some (.int r.1)))) (fun r => (cw κ cs r.2 J W)) h (fun _ => rfl)) (fun h =>
  tt_R 2 (fun r => (.inl (some (.int r.1)))) (fun r => (cw κ cs r.2 J W)) h (fun _ => rfl)))
/- 28 -/
def lb_28_8 (s0 : Int32) (I : (Nat → Nat → Int32)) (W : Nat) : Option (Int32 × (Nat → Nat → Int32)) :=
  (some (s0, I))
def lb_28_6 (I : (Nat → Nat → Int32)) (W : Nat) : Option (Int32 × (Nat → Nat → Int32)) :=
  (if (I 60 5) = (2 : Int32) then ((f_30  I).bind fun q2 => (lb_28_8  q2.1 q2.2 W)) else ((f_31  I W).bind fun q1 => (lb_28_8  q1.1 q1.2 W)))
def lb_28_3 (x1 : Int32) (I : (Nat → Nat → Int32)) (W : Nat) : Option (Int32 × (Nat → Nat → Int32)) :=
  (if (I 67 9) < (6 : Int32) then (if x1 = 0 then (if isw W ∧ isw 16 then (if W = 16 then (if (I 67 11) = 0 then (lb_28_6   I W) else ((f_29  I).bind fun q3 => (some (q3.1, q3.2)))) else (lb_28_6   I W)) else none) else ((f_37 ((-16) : Int32) I).bind fun q4 => (let I5 := up q4 67 9 ((q4 67 9) + (1 : Int32))
  ((f_26  I5).bind fun q6 => (some ((0 : Int32), q6)))))) else (some ((2 : Int32), I)))
def lb_28_2 (s0 : Int32) (I : (Nat → Nat → Int32)) (W : Nat) : Option (Int32 × (Nat → Nat → Int32)) :=
  (if s0 = 0 then (if (I 60 5) = (2 : Int32) then (lb_28_3  s0 I W) else (if (I 60 5) = (1 : Int32) then (lb_28_3  s0 I W) else (some ((1 : Int32), I)))) else (lb_28_3  s0 I W))
def f_28 (I : (Nat → Nat → Int32)) (W : Nat) : Option (Int32 × (Nat → Nat → Int32)) :=
  (if (I 60 8) = (40 : Int32) then (lb_28_2  (1 : Int32) I W) else (lb_28_2  (0 : Int32) I W))
theorem tl_28_8 {d : Nat} {κ : KT} {cs : Nat × Nat} {J : Nat → Nat → Int64} (s0 : Int32) (I : (Nat → Nat → Int32)) (W : Nat) (r : (Int32 × (Nat → Nat → Int32))) (h : lb_28_8  s0 I W = some r) : tt (d + 2) me_28 bk_28_8 [none, none] [.int s0] (cw κ cs I J W) (.inl (some (.int r.1))) (cw κ cs r.2 J W) :=
  tt_R 1 (fun r => (.inl (some (.int r.1)))) (fun r => (cw κ cs r.2 J W)) h (fun _ => rfl)
theorem tl_28_6 {d : Nat} {κ : KT} {cs : Nat × Nat} {J : Nat → Nat → Int64} (I : (Nat → Nat → Int32)) (W : Nat) (r : (Int32 × (Nat → Nat → Int32))) (h : lb_28_6   I W = some r) : tt (d + 2) me_28 bk_28_6 [some (.ref 67), none] [] (cw κ cs I J W) (.inl (some (.int r.1))) (cw κ cs r.2 J W) :=
  tt_I (L1 := (bk_28_6.drop 5)) (L2 := bk_28_7) 5 [some (.ref 67), none] [] (cw κ cs I J W) h (fun _ => rfl) (fun h =>
  tt_C (L1 := (bk_28_6.drop 7)) 2 [some (.ref 67), none] [] (cw κ cs I J W) h (fun _ => rfl) (fun _ e => m_30 (d := d) e) fun q2 h =>
  tt_J (L1 := bk_28_8) 0 [some (.ref 67), none] [.int q2.1] (cw κ cs q2.2 J W) (fun _ => rfl) (tt_F [none, none] trivial (tl_28_8  q2.1 q2.2 W _ h))) (fun h =>
  tt_C (L1 := bk_28_8) 2 [some (.ref 67), none] [] (cw κ cs I J W) h (fun _ => rfl) (fun _ e => m_31 (d := d) e) fun q1 h =>
  tt_F [none, none] trivial (tl_28_8  q1.1 q1.2 W _ h))
theorem tl_28_3 {d : Nat} {κ : KT} {cs : Nat × Nat} {J : Nat → Nat → Int64} (x1 : Int32) (I : (Nat → Nat → Int32)) (W : Nat) (r : (Int32 × (Nat → Nat → Int32))) (h : lb_28_3  x1 I W = some r) : tt (d + 2) me_28 bk_28_3 [some (.ref 67), some (.int x1)] [] (cw κ cs I J W) (.inl (some (.int r.1))) (cw κ cs r.2 J W) :=
  tt_I (L1 := bk_28_4) (L2 := (bk_28_3.drop 4)) 4 [some (.ref 67), some (.int x1)] [] (cw κ cs I J W) h (fun _ => rfl) (fun h =>
  tt_I (L1 := bk_28_5) (L2 := (bk_28_4.drop 2)) 2 [some (.ref 67), some (.int x1)] [] (cw κ cs I J W) h (fun _ => rfl) (fun h =>
  tt_J (L1 := (bk_28_5.drop 4)) 3 [some (.ref 67), some (.int x1)] [.ref 16, .ref W] (cw κ cs I J W) (fun _ => rfl) (
  tt_Ane h (fun h =>
  tt_I (L1 := bk_28_6) (L2 := (bk_28_5.drop 8)) 3 [some (.ref 67), some (.int x1)] [] (cw κ cs I J W) h (fun _ => rfl) (fun h =>
  tt_F [some (.ref 67), none] (And.intro rfl trivial) (tl_28_6   I W _ h)) (fun h =>
  tt_C (L1 := (bk_28_5.drop 10)) 2 [some (.ref 67), some (.int x1)] [] (cw κ cs I J W) h (fun _ => rfl) (fun _ e => m_29 (d := d) e) fun q3 h =>
  tt_R 1 (fun r => (.inl (some (.int r.1)))) (fun r => (cw κ cs r.2 J W)) h (fun _ => rfl))) (fun h =>
  tt_F [some (.ref 67), none] (And.intro rfl trivial) (tl_28_6   I W _ h)))) (fun h =>
  tt_C (L1 := (bk_28_4.drop 5)) 3 [some (.ref 67), some (.int x1)] [] (cw κ cs I J W) h (fun _ => rfl) (fun _ e => m_37 (d := d + 1) e) fun q4 h =>
  let I5 := up q4 67 9 ((q4 67 9) + (1 : Int32))
  tt_C (L1 := (bk_28_4.drop 13)) 8 [some (.ref 67), some (.int x1)] [] (cw κ cs I5 J W) h (fun _ => rfl) (fun _ e => m_26 (d := d) e) fun q6 h =>
  tt_R 2 (fun r => (.inl (some (.int r.1)))) (fun r => (cw κ cs r.2 J W)) h (fun _ => rfl))) (fun h =>
  tt_R 2 (fun r => (.inl (some (.int r.1)))) (fun r => (cw κ cs r.2 J W)) h (fun _ => rfl))
theorem tl_28_2 {d : Nat} {κ : KT} {cs : Nat × Nat} {J : Nat → Nat → Int64} (s0 : Int32) (I : (Nat → Nat → Int32)) (W : Nat) (r : (Int32 × (Nat → Nat → Int32))) (h : lb_28_2  s0 I W = some r) : tt (d + 2) me_28 bk_28_2 [some (.ref 67), none] [.int s0] (cw κ cs I J W) (.inl (some (.int r.1))) (cw κ cs r.2 J W) :=
  tt_I (L1 := (bk_28_2.drop 3)) (L2 := bk_28_3) 3 [some (.ref 67), some (.int s0)] [] (cw κ cs I J W) h (fun _ => rfl) (fun h =>
  tt_I (L1 := bk_28_3) (L2 := (bk_28_2.drop 8)) 5 [some (.ref 67), some (.int s0)] [] (cw κ cs I J W) h (fun _ => rfl) (fun h =>
  tt_F [some (.ref 67), some (.int s0)] (And.intro rfl (And.intro rfl trivial)) (tl_28_3  s0 I W _ h)) (fun h =>
  tt_I (L1 := bk_28_3) (L2 := (bk_28_2.drop 13)) 5 [some (.ref 67), some (.int s0)] [] (cw κ cs I J W) h (fun _ => rfl) (fun h =>
  tt_F [some (.ref 67), some (.int s0)] (And.intro rfl (And.intro rfl trivial)) (tl_28_3  s0 I W _ h)) (fun h =>
  tt_R 2 (fun r => (.inl (some (.int r.1)))) (fun r => (cw κ cs r.2 J W)) h (fun _ => rfl)))) (fun h =>
  tt_F [some (.ref 67), some (.int s0)] (And.intro rfl (And.intro rfl trivial)) (tl_28_3  s0 I W _ h))
theorem m_28 {d : Nat} {κ : KT} {cs : Nat × Nat} {J : Nat → Nat → Int64} {I : (Nat → Nat → Int32)} {W : Nat} {r : (Int32 × (Nat → Nat → Int32))} (h : f_28  I W = some r) : tm (d + 2) 28 [.ref 67] (cw κ cs I J W) (.inl (some (.int r.1))) (cw κ cs r.2 J W) :=
  tm_of me_28 rfl (Nat.le_of_ble_eq_true rfl) (
  tt_I (L1 := (bk_28_0.drop 5)) (L2 := bk_28_1) 5 [some (.ref 67), none] [] (cw κ cs I J W) h (fun _ => rfl) (fun h =>
  tt_J (L1 := bk_28_2) 1 [some (.ref 67), none] [.int (1 : Int32)] (cw κ cs I J W) (fun _ => rfl) (tt_F [some (.ref 67), none] (And.intro rfl trivial) (tl_28_2  (1 : Int32) I W _ h))) (fun h =>
  tt_J (L1 := bk_28_2) 0 [some (.ref 67), none] [.int (0 : Int32)] (cw κ cs I J W) (fun _ => rfl) (tt_F [some (.ref 67), none] (And.intro rfl trivial) (tl_28_2  (0 : Int32) I W _ h))))
