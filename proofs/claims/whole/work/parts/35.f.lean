/-! functions, by wip/whole/sy.py -/
/- 233 -/
def f_233 (x1 : Int32) (I : (Nat → Nat → Int32)) (J : (Nat → Nat → Int64)) : Option (Int32 × (Nat → Nat → Int32) × (Nat → Nat → Int64)) :=
  ((f_102 x1 I).bind fun q1 => mt2 q1.1 (fun v => (if ex_in (0 : Int32) 1 then let J2 := up J 133 ((0 : Int32)).toNatClampNeg (v).toInt64
  (some ((0 : Int32), q1.2, J2)) else none)) (fun e => (if e = 0 then some ((1 : Int32), q1.2, J) else none)))
theorem m_233 {d : Nat} {κ : KT} {cs : Nat × Nat} {W : Nat} {x1 : Int32} {I : (Nat → Nat → Int32)} {J : (Nat → Nat → Int64)} {r : (Int32 × (Nat → Nat → Int32) × (Nat → Nat → Int64))} (h : f_233 x1 I J = some r) : tm (d + 15) 233 [.ref 58, .int x1, .ref 133] (cw (km (kl κ)) cs I J W) (.inl (some (.int r.1))) (cw (km (kl κ)) (xk cs r.1) r.2.1 r.2.2 W) :=
  tm_of me_233 rfl (Nat.le_of_ble_eq_true rfl) (
  tt_X (d := d + 14) (L1 := (bk_233_0.drop 5)) 5 [some (.ref 58), some (.int x1), some (.ref 133), none] [.int (0 : Int32), .ref 133] (cw (km (kl κ)) cs I J W) xi (fun v => some (.int v)) (fun _ => rfl) (fun _ => rfl) h (fun _ => rfl) (fun _ e => m_102 (d := d) e) (fun q1 v h =>
  let J2 := up J 133 ((0 : Int32)).toNatClampNeg (v).toInt64
  tt_J (L1 := (bk_233_0.drop 6)) 0 [some (.ref 58), some (.int x1), some (.ref 133), none] [.long (v).toInt64, .int (0 : Int32), .ref 133] (cw (km (kl κ)) cs q1.2 J W) (fun _ => rfl) (
  tt_Wl rfl (Nat.le_of_ble_eq_true rfl) h fun h =>
  tt_R 3 (fun r => (.inl (some (.int r.1)))) (fun r => (cw (km (kl κ)) (xk cs r.1) r.2.1 r.2.2 W)) h (fun _ => rfl))) (fun q1 e h => by (split at h; · next he => (subst he; cases h; rfl)); cases h))
/- 234 -/
def f_234 (x1 : Int32) (I : (Nat → Nat → Int32)) (J : (Nat → Nat → Int64)) : Option (Int32 × (Nat → Nat → Int64)) :=
  ((f_103 x1 I).bind fun q1 => mt2 q1 (fun v => (if ex_in (0 : Int32) 1 then let J2 := up J 133 ((0 : Int32)).toNatClampNeg (v).toInt64
  (some ((0 : Int32), J2)) else none)) (fun e => (if e = 1 then some ((1 : Int32), J) else none)))
theorem m_234 {d : Nat} {κ : KT} {cs : Nat × Nat} {W : Nat} {x1 : Int32} {I : (Nat → Nat → Int32)} {J : (Nat → Nat → Int64)} {r : (Int32 × (Nat → Nat → Int64))} (h : f_234 x1 I J = some r) : tm (d + 3) 234 [.ref 58, .int x1, .ref 133] (cw (km (kl κ)) cs I J W) (.inl (some (.int r.1))) (cw (km (kl κ)) (xk cs r.1) I r.2 W) :=
  tm_of me_234 rfl (Nat.le_of_ble_eq_true rfl) (
  tt_X (d := d + 2) (L1 := (bk_234_0.drop 5)) 5 [some (.ref 58), some (.int x1), some (.ref 133), none] [.int (0 : Int32), .ref 133] (cw (km (kl κ)) cs I J W) xi (fun v => some (.int v)) (fun _ => rfl) (fun _ => rfl) h (fun _ => rfl) (fun _ e => m_103 (d := d) e) (fun q1 v h =>
  let J2 := up J 133 ((0 : Int32)).toNatClampNeg (v).toInt64
  tt_J (L1 := (bk_234_0.drop 6)) 0 [some (.ref 58), some (.int x1), some (.ref 133), none] [.long (v).toInt64, .int (0 : Int32), .ref 133] (cw (km (kl κ)) cs I J W) (fun _ => rfl) (
  tt_Wl rfl (Nat.le_of_ble_eq_true rfl) h fun h =>
  tt_R 3 (fun r => (.inl (some (.int r.1)))) (fun r => (cw (km (kl κ)) (xk cs r.1) I r.2 W)) h (fun _ => rfl))) (fun q1 e h => by (split at h; · next he => (subst he; cases h; rfl)); cases h))
/- 235 -/
def f_235 (x1 : Int32) (I : (Nat → Nat → Int32)) (J : (Nat → Nat → Int64)) : Option (Int32 × (Nat → Nat → Int64)) :=
  ((f_106 x1 I).bind fun q1 => mt2 q1 (fun v => (if ex_in (0 : Int32) 1 then let J2 := up J 133 ((0 : Int32)).toNatClampNeg (v).toInt64
  (some ((0 : Int32), J2)) else none)) (fun e => (if e = 1 then some ((1 : Int32), J) else none)))
theorem m_235 {d : Nat} {κ : KT} {cs : Nat × Nat} {W : Nat} {x1 : Int32} {I : (Nat → Nat → Int32)} {J : (Nat → Nat → Int64)} {r : (Int32 × (Nat → Nat → Int64))} (h : f_235 x1 I J = some r) : tm (d + 3) 235 [.ref 58, .int x1, .ref 133] (cw (km (kl κ)) cs I J W) (.inl (some (.int r.1))) (cw (km (kl κ)) (xk cs r.1) I r.2 W) :=
  tm_of me_235 rfl (Nat.le_of_ble_eq_true rfl) (
  tt_X (d := d + 2) (L1 := (bk_235_0.drop 5)) 5 [some (.ref 58), some (.int x1), some (.ref 133), none] [.int (0 : Int32), .ref 133] (cw (km (kl κ)) cs I J W) xi (fun v => some (.int v)) (fun _ => rfl) (fun _ => rfl) h (fun _ => rfl) (fun _ e => m_106 (d := d) e) (fun q1 v h =>
  let J2 := up J 133 ((0 : Int32)).toNatClampNeg (v).toInt64
  tt_J (L1 := (bk_235_0.drop 6)) 0 [some (.ref 58), some (.int x1), some (.ref 133), none] [.long (v).toInt64, .int (0 : Int32), .ref 133] (cw (km (kl κ)) cs I J W) (fun _ => rfl) (
  tt_Wl rfl (Nat.le_of_ble_eq_true rfl) h fun h =>
  tt_R 3 (fun r => (.inl (some (.int r.1)))) (fun r => (cw (km (kl κ)) (xk cs r.1) I r.2 W)) h (fun _ => rfl))) (fun q1 e h => by (split at h; · next he => (subst he; cases h; rfl)); cases h))
/- 236 -/
def f_236 (x1 : Int32) (I : (Nat → Nat → Int32)) (J : (Nat → Nat → Int64)) : Option (Int32 × (Nat → Nat → Int32) × (Nat → Nat → Int64)) :=
  ((f_109 x1 I).bind fun q1 => mt2 q1.1 (fun v => (if ex_in (0 : Int32) 1 then let J2 := up J 133 ((0 : Int32)).toNatClampNeg (v).toInt64
  (some ((0 : Int32), q1.2, J2)) else none)) (fun e => (if e = 1 then some ((1 : Int32), q1.2, J) else none)))
theorem m_236 {d : Nat} {κ : KT} {cs : Nat × Nat} {W : Nat} {x1 : Int32} {I : (Nat → Nat → Int32)} {J : (Nat → Nat → Int64)} {r : (Int32 × (Nat → Nat → Int32) × (Nat → Nat → Int64))} (h : f_236 x1 I J = some r) : tm (d + 7) 236 [.ref 58, .int x1, .ref 133] (cw (km (kl κ)) cs I J W) (.inl (some (.int r.1))) (cw (km (kl κ)) (xk cs r.1) r.2.1 r.2.2 W) :=
  tm_of me_236 rfl (Nat.le_of_ble_eq_true rfl) (
  tt_X (d := d + 6) (L1 := (bk_236_0.drop 5)) 5 [some (.ref 58), some (.int x1), some (.ref 133), none] [.int (0 : Int32), .ref 133] (cw (km (kl κ)) cs I J W) xi (fun v => some (.int v)) (fun _ => rfl) (fun _ => rfl) h (fun _ => rfl) (fun _ e => m_109 (d := d) e) (fun q1 v h =>
  let J2 := up J 133 ((0 : Int32)).toNatClampNeg (v).toInt64
  tt_J (L1 := (bk_236_0.drop 6)) 0 [some (.ref 58), some (.int x1), some (.ref 133), none] [.long (v).toInt64, .int (0 : Int32), .ref 133] (cw (km (kl κ)) cs q1.2 J W) (fun _ => rfl) (
  tt_Wl rfl (Nat.le_of_ble_eq_true rfl) h fun h =>
  tt_R 3 (fun r => (.inl (some (.int r.1)))) (fun r => (cw (km (kl κ)) (xk cs r.1) r.2.1 r.2.2 W)) h (fun _ => rfl))) (fun q1 e h => by (split at h; · next he => (subst he; cases h; rfl)); cases h))
/- 237 -/
def f_237 (x1 : Int32) (x2 : Int32) (x3 : Int32) (I : (Nat → Nat → Int32)) (J : (Nat → Nat → Int64)) : Option (Int32 × (Nat → Nat → Int64)) :=
  ((f_110 x1 x2 x3 I).bind fun q1 => mt2 q1 (fun v => (if ex_in (0 : Int32) 1 then let J2 := up J 133 ((0 : Int32)).toNatClampNeg (v).toInt64
  (some ((0 : Int32), J2)) else none)) (fun e => (if e = 0 then some ((1 : Int32), J) else none)))
theorem m_237 {d : Nat} {κ : KT} {cs : Nat × Nat} {W : Nat} {x1 : Int32} {x2 : Int32} {x3 : Int32} {I : (Nat → Nat → Int32)} {J : (Nat → Nat → Int64)} {r : (Int32 × (Nat → Nat → Int64))} (h : f_237 x1 x2 x3 I J = some r) : tm (d + 5) 237 [.ref 58, .int x1, .int x2, .int x3, .ref 133] (cw (km (kl κ)) cs I J W) (.inl (some (.int r.1))) (cw (km (kl κ)) (xk cs r.1) I r.2 W) :=
  tm_of me_237 rfl (Nat.le_of_ble_eq_true rfl) (
  tt_X (d := d + 4) (L1 := (bk_237_0.drop 7)) 7 [some (.ref 58), some (.int x1), some (.int x2), some (.int x3), some (.ref 133), none] [.int (0 : Int32), .ref 133] (cw (km (kl κ)) cs I J W) xi (fun v => some (.int v)) (fun _ => rfl) (fun _ => rfl) h (fun _ => rfl) (fun _ e => m_110 (d := d) e) (fun q1 v h =>
  let J2 := up J 133 ((0 : Int32)).toNatClampNeg (v).toInt64
  tt_J (L1 := (bk_237_0.drop 8)) 0 [some (.ref 58), some (.int x1), some (.int x2), some (.int x3), some (.ref 133), none] [.long (v).toInt64, .int (0 : Int32), .ref 133] (cw (km (kl κ)) cs I J W) (fun _ => rfl) (
  tt_Wl rfl (Nat.le_of_ble_eq_true rfl) h fun h =>
  tt_R 3 (fun r => (.inl (some (.int r.1)))) (fun r => (cw (km (kl κ)) (xk cs r.1) I r.2 W)) h (fun _ => rfl))) (fun q1 e h => by (split at h; · next he => (subst he; cases h; rfl)); cases h))
/- 238 -/
def f_238 (x1 : Int32) (x2 : Int32) (J : (Nat → Nat → Int64)) : Option (Int32 × (Nat → Nat → Int64)) :=
  ((f_111 x1 x2 ).bind fun q1 => mt2 q1 (fun v => (if ex_in (0 : Int32) 1 then let J2 := up J 133 ((0 : Int32)).toNatClampNeg (v).toInt64
  (some ((0 : Int32), J2)) else none)) (fun e => (if e = 0 then some ((1 : Int32), J) else none)))
theorem m_238 {d : Nat} {κ : KT} {cs : Nat × Nat} {I : Nat → Nat → Int32} {W : Nat} {x1 : Int32} {x2 : Int32} {J : (Nat → Nat → Int64)} {r : (Int32 × (Nat → Nat → Int64))} (h : f_238 x1 x2 J = some r) : tm (d + 2) 238 [.ref 58, .int x1, .int x2, .ref 133] (cw (km (kl κ)) cs I J W) (.inl (some (.int r.1))) (cw (km (kl κ)) (xk cs r.1) I r.2 W) :=
  tm_of me_238 rfl (Nat.le_of_ble_eq_true rfl) (
  tt_X (d := d + 1) (L1 := (bk_238_0.drop 6)) 6 [some (.ref 58), some (.int x1), some (.int x2), some (.ref 133), none] [.int (0 : Int32), .ref 133] (cw (km (kl κ)) cs I J W) xi (fun v => some (.int v)) (fun _ => rfl) (fun _ => rfl) h (fun _ => rfl) (fun _ e => m_111 (d := d) e) (fun q1 v h =>
  let J2 := up J 133 ((0 : Int32)).toNatClampNeg (v).toInt64
  tt_J (L1 := (bk_238_0.drop 7)) 0 [some (.ref 58), some (.int x1), some (.int x2), some (.ref 133), none] [.long (v).toInt64, .int (0 : Int32), .ref 133] (cw (km (kl κ)) cs I J W) (fun _ => rfl) (
  tt_Wl rfl (Nat.le_of_ble_eq_true rfl) h fun h =>
  tt_R 3 (fun r => (.inl (some (.int r.1)))) (fun r => (cw (km (kl κ)) (xk cs r.1) I r.2 W)) h (fun _ => rfl))) (fun q1 e h => by (split at h; · next he => (subst he; cases h; rfl)); cases h))
