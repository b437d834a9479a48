/-! constructors that call: rules, by wip/whole/ctor3.py -/
section RC
variable {d m c s pc len : Nat} {M : ex_M} {L : List ex_R} {lo : ex_Lo} {st : List Value} {S : List ex_Sh} {I : Nat → Nat → Int32} {J : Nat → Nat → Int64} {R : Nat → Nat → Option Nat} {x : Option Value ⊕ Nat} {w w' : ex_W} {r : List Nat} {k : Int32}
theorem ap_new {y : ex_Sh} (h : S.length = m) : (S ++ [y])[m]? = some y := by
  subst h
  exact List.getElem?_concat_length
theorem tm_cast {mi : Nat} {as : List Value} {w1 w2 : ex_W} (e : w = w1) (h : tm d mi as w1 x w2) : tm d mi as w x w2 := by
  rw [e]
  exact h
theorem tn_dup {a : Nat} (g : tt d M L lo (.ref a :: .ref a :: st) w x w') : tt d M ((pc, len, .dup, r, k) :: L) lo (.ref a :: st) w x w' := tt_1 (fun _ => rfl) g
theorem tn_gej {v y : Int32} {o : Int} {b : Nat} (h : ¬ v < y) (g : tt d M (M.2.2.2.2.2.1.getD b []) lo st w x w') : tt d M ((pc, len, .if_icmp .ge o, [b], k) :: L) lo (.int y :: .int v :: st) w x w' := tt_1 (fun _ => if_neg h) g
theorem tn_gs1 {i y z u v : Nat} (g : tt d M L lo (.ref y :: st) w x w') : tt d M ((pc, len, .getstatic i, [0, y, z, u, v], k) :: L) lo st w x w' := tt_1 (fun _ => rfl) g
theorem tn_gr {i a b ci f y1 y2 : Nat} (ha : S[a]? = some (.inl ci)) (hro : 58 ≤ a) (hci : ci < 100) (hR : R a f = some b) (g : tt d M L lo (.ref b :: st) ((S, c, s), I, J, R) x w') : tt d M ((pc, len, .getfield i, [ci, f, 2, y1, y2], k) :: L) lo (.ref a :: st) ((S, c, s), I, J, R) x w' := by
  refine tt_1 (fun n => ?_) g
  have e : ex_heap pg_ro (.getfield i) [ci, f, 2, y1, y2] k (.ref a :: st) ((S, c, s), I, J, R) = some (.ref b :: st, ((S, c, s), I, J, R)) := by
    show (match S[a]? with
        | some (.inl cj) => if cj = ci ∧ (cj < 100 ∧ pg_ro ≤ a ∨ 100 ≤ cj ∧ ¬ pg_ro ≤ a) then some (va_rf (R a f) :: st, ((S, c, s), I, J, R)) else none
        | _ => none) = _
    rw [ha]
    show (if ci = ci ∧ (ci < 100 ∧ pg_ro ≤ a ∨ 100 ≤ ci ∧ ¬ pg_ro ≤ a) then some (va_rf (R a f) :: st, ((S, c, s), I, J, R)) else none) = _
    rw [if_pos ⟨rfl, Or.inl ⟨hci, hro⟩⟩, hR]
    rfl
  show (match ex_heap pg_ro (.getfield i) [ci, f, 2, y1, y2] k (.ref a :: st) ((S, c, s), I, J, R) with
    | some (st, w) => ex_run pg_ro pg_mt n d M.2.2.2.2.2.1 L lo st w
    | none => none) = _
  rw [e]
theorem tn_lz {a n : Nat} (hs : S[a]? = some (.inr (.boolean, n))) (g : tt d M L lo (.int (nI n) :: st) ((S, c, s), I, J, R) x w') : tt d M ((pc, len, .arraylength, r, k) :: L) lo (.ref a :: st) ((S, c, s), I, J, R) x w' := by
  refine tt_1 (fun m => ?_) g
  have : ex_heap pg_ro .arraylength r k (.ref a :: st) ((S, c, s), I, J, R) = some (.int (nI n) :: st, ((S, c, s), I, J, R)) := by
    unfold ex_heap
    dsimp only
    rw [hs]
    exact if_pos (Or.inr rfl)
  show (match ex_heap pg_ro .arraylength r k (.ref a :: st) ((S, c, s), I, J, R) with
        | some (st, w) => ex_run pg_ro pg_mt m d M.2.2.2.2.2.1 L lo st w
        | none => none) = _
  rw [this]
theorem tn_bs {a n : Nat} {j v : Int32} (hs : S[a]? = some (.inr (.boolean, n))) (hj : ex_in j n) (ha : pg_ro ≤ a) (g : tt d M L lo st ((S, c, s), up I a j.toNatClampNeg (vp_nar .boolean v), J, R) x w') : tt d M ((pc, len, .bastore, r, k) :: L) lo (.int v :: .int j :: .ref a :: st) ((S, c, s), I, J, R) x w' := by
  refine tt_1 (fun m => ?_) g
  have : ex_heap pg_ro .bastore r k (.int v :: .int j :: .ref a :: st) ((S, c, s), I, J, R) = some (st, ((S, c, s), up I a j.toNatClampNeg (vp_nar .boolean v), J, R)) := by
    unfold ex_heap
    dsimp only
    rw [hs]
    exact if_pos ⟨hj, ha⟩
  show (match ex_heap pg_ro .bastore r k (.int v :: .int j :: .ref a :: st) ((S, c, s), I, J, R) with
        | some (st, w) => ex_run pg_ro pg_mt m d M.2.2.2.2.2.1 L lo st w
        | none => none) = _
  rw [this]
theorem rcv_of {a ci : Nat} {as : List Value} (ha : S[a]? = some (.inl ci)) (hro : 58 ≤ a) (hci : ci < 100) : ex_rcv pg_ro ((S, c, s), I, J, R) ci (.ref a :: as) = true := by
  unfold ex_rcv
  dsimp only
  rw [ha]
  exact decide_eq_true ⟨rfl, Or.inl ⟨hci, hro⟩⟩
theorem tn_i1 {i mi ci a : Nat} {w2 : ex_W} (hc : (st.map fun v => v.category).sum ≤ 8) (ha : S[a]? = some (.inl ci)) (hro : 58 ≤ a) (hci : ci < 100) (hm : tm d mi [.ref a] ((S, c, s), I, J, R) (.inl none) w2) (g : tt (d + 1) M L lo st w2 x w') : tt (d + 1) M ((pc, len, .invokespecial i, [5, mi, 1, ci], k) :: L) lo (.ref a :: st) ((S, c, s), I, J, R) x w' := by
  refine tt_K 1 lo st ((S, c, s), I, J, R) (v := none) (fun n => ?_) hm g
  show ex_inv pg_ro pg_mt (ex_run pg_ro pg_mt n) (d + 1) M.2.2.2.2.2.1 [5, mi, 1, ci] L lo (.ref a :: st) ((S, c, s), I, J, R) = _
  exact (if_pos (c := ((1 : Nat) ≤ (Value.ref a :: st).length ∧ (((Value.ref a :: st).drop 1).map fun v => v.category).sum ≤ 8) ∧ ((5 : Nat) = 2 ∨ (5 : Nat) = 3 ∨ (5 : Nat) = 8 ∨ ex_rcv pg_ro ((S, c, s), I, J, R) ci ((Value.ref a :: st).take 1).reverse = true)) ⟨⟨Nat.le_add_left 1 st.length, hc⟩, Or.inr (Or.inr (Or.inr (rcv_of (as := []) ha hro hci)))⟩).trans rfl
theorem tn_i2 {i mi ci a b1 : Nat} {w2 : ex_W} (hc : (st.map fun v => v.category).sum ≤ 8) (ha : S[a]? = some (.inl ci)) (hro : 58 ≤ a) (hci : ci < 100) (hm : tm d mi [.ref a, .ref b1] ((S, c, s), I, J, R) (.inl none) w2) (g : tt (d + 1) M L lo st w2 x w') : tt (d + 1) M ((pc, len, .invokespecial i, [5, mi, 2, ci], k) :: L) lo (.ref b1 :: .ref a :: st) ((S, c, s), I, J, R) x w' := by
  refine tt_K 1 lo st ((S, c, s), I, J, R) (v := none) (fun n => ?_) hm g
  show ex_inv pg_ro pg_mt (ex_run pg_ro pg_mt n) (d + 1) M.2.2.2.2.2.1 [5, mi, 2, ci] L lo (.ref b1 :: .ref a :: st) ((S, c, s), I, J, R) = _
  exact (if_pos (c := ((2 : Nat) ≤ (Value.ref b1 :: Value.ref a :: st).length ∧ (((Value.ref b1 :: Value.ref a :: st).drop 2).map fun v => v.category).sum ≤ 8) ∧ ((5 : Nat) = 2 ∨ (5 : Nat) = 3 ∨ (5 : Nat) = 8 ∨ ex_rcv pg_ro ((S, c, s), I, J, R) ci ((Value.ref b1 :: Value.ref a :: st).take 2).reverse = true)) ⟨⟨Nat.le_add_left 2 st.length, hc⟩, Or.inr (Or.inr (Or.inr (rcv_of (as := [.ref b1]) ha hro hci)))⟩).trans rfl
theorem tn_i3 {i mi ci a b1 b2 : Nat} {w2 : ex_W} (hc : (st.map fun v => v.category).sum ≤ 8) (ha : S[a]? = some (.inl ci)) (hro : 58 ≤ a) (hci : ci < 100) (hm : tm d mi [.ref a, .ref b1, .ref b2] ((S, c, s), I, J, R) (.inl none) w2) (g : tt (d + 1) M L lo st w2 x w') : tt (d + 1) M ((pc, len, .invokespecial i, [5, mi, 3, ci], k) :: L) lo (.ref b2 :: .ref b1 :: .ref a :: st) ((S, c, s), I, J, R) x w' := by
  refine tt_K 1 lo st ((S, c, s), I, J, R) (v := none) (fun n => ?_) hm g
  show ex_inv pg_ro pg_mt (ex_run pg_ro pg_mt n) (d + 1) M.2.2.2.2.2.1 [5, mi, 3, ci] L lo (.ref b2 :: .ref b1 :: .ref a :: st) ((S, c, s), I, J, R) = _
  exact (if_pos (c := ((3 : Nat) ≤ (Value.ref b2 :: Value.ref b1 :: Value.ref a :: st).length ∧ (((Value.ref b2 :: Value.ref b1 :: Value.ref a :: st).drop 3).map fun v => v.category).sum ≤ 8) ∧ ((5 : Nat) = 2 ∨ (5 : Nat) = 3 ∨ (5 : Nat) = 8 ∨ ex_rcv pg_ro ((S, c, s), I, J, R) ci ((Value.ref b2 :: Value.ref b1 :: Value.ref a :: st).take 3).reverse = true)) ⟨⟨Nat.le_add_left 3 st.length, hc⟩, Or.inr (Or.inr (Or.inr (rcv_of (as := [.ref b1, .ref b2]) ha hro hci)))⟩).trans rfl
theorem tn_v1 {i mi ci a : Nat} {w2 : ex_W} (hc : (st.map fun v => v.category).sum ≤ 8) (ha : S[a]? = some (.inl ci)) (hro : 58 ≤ a) (hci : ci < 100) (hm : tm d mi [.ref a] ((S, c, s), I, J, R) (.inl none) w2) (g : tt (d + 1) M L lo st w2 x w') : tt (d + 1) M ((pc, len, .invokevirtual i, [0, mi, 1, ci], k) :: L) lo (.ref a :: st) ((S, c, s), I, J, R) x w' := by
  refine tt_K 1 lo st ((S, c, s), I, J, R) (v := none) (fun n => ?_) hm g
  show ex_inv pg_ro pg_mt (ex_run pg_ro pg_mt n) (d + 1) M.2.2.2.2.2.1 [0, mi, 1, ci] L lo (.ref a :: st) ((S, c, s), I, J, R) = _
  exact (if_pos (c := ((1 : Nat) ≤ (Value.ref a :: st).length ∧ (((Value.ref a :: st).drop 1).map fun v => v.category).sum ≤ 8) ∧ ((0 : Nat) = 2 ∨ (0 : Nat) = 3 ∨ (0 : Nat) = 8 ∨ ex_rcv pg_ro ((S, c, s), I, J, R) ci ((Value.ref a :: st).take 1).reverse = true)) ⟨⟨Nat.le_add_left 1 st.length, hc⟩, Or.inr (Or.inr (Or.inr (rcv_of (as := []) ha hro hci)))⟩).trans rfl
theorem tn_l1 {i mi ci a : Nat} {w2 : ex_W} (hc : (st.map fun v => v.category).sum ≤ 8) (ha : S[a]? = some (.inl ci)) (hro : 58 ≤ a) (hci : ci < 100) (hm : tm d mi [.ref a] ((S, c, s), I, J, R) (.inl none) w2) (g : tt (d + 1) M L lo st w2 x w') : tt (d + 1) M ((pc, len, .invokespecial i, [4, mi, 1, ci], k) :: L) lo (.ref a :: st) ((S, c, s), I, J, R) x w' := by
  refine tt_K 1 lo st ((S, c, s), I, J, R) (v := none) (fun n => ?_) hm g
  show ex_inv pg_ro pg_mt (ex_run pg_ro pg_mt n) (d + 1) M.2.2.2.2.2.1 [4, mi, 1, ci] L lo (.ref a :: st) ((S, c, s), I, J, R) = _
  exact (if_pos (c := ((1 : Nat) ≤ (Value.ref a :: st).length ∧ (((Value.ref a :: st).drop 1).map fun v => v.category).sum ≤ 8) ∧ ((4 : Nat) = 2 ∨ (4 : Nat) = 3 ∨ (4 : Nat) = 8 ∨ ex_rcv pg_ro ((S, c, s), I, J, R) ci ((Value.ref a :: st).take 1).reverse = true)) ⟨⟨Nat.le_add_left 1 st.length, hc⟩, Or.inr (Or.inr (Or.inr (rcv_of (as := []) ha hro hci)))⟩).trans rfl
theorem tn_s2 {i mi a b : Nat} {w2 : ex_W} (hm : tm d mi [.ref a, .ref b] w (.inl none) w2) (g : tt (d + 1) M L lo [] w2 x w') : tt (d + 1) M ((pc, len, .invokestatic i, [3, mi, 2, 0], k) :: L) lo [.ref b, .ref a] w x w' :=
  tt_K 1 lo [] w (v := none) (fun _ => rfl) hm g
theorem mg_min (a b : Nat) (ha : a < 2 ^ 31) (hb : b < 2 ^ 31) : tm d 213 [.int (nI a), .int (nI b)] w (.inl (some (.int (nI (min a b))))) w := by
  refine tm_of me_213 rfl (Nat.le_of_ble_eq_true rfl) ?_
  by_cases h : b < a
  · rw [Nat.min_eq_right (by omega)]
    exact tt_S 3 (L1 := bk_213_1) [some (.int (nI a)), some (.int (nI b))] [] w (fun _ => if_pos (nI_lt h ha)) ⟨2, fun _ => rfl⟩
  · rw [Nat.min_eq_left (by omega)]
    exact tt_S 3 [some (.int (nI a)), some (.int (nI b))] [] w (fun _ => if_neg (nI_nlt (show a ≤ b by omega) hb)) ⟨3, fun _ => rfl⟩
theorem mg_copy (a n b m : Nat) (hn : n < 2 ^ 31) (hm : m < 2 ^ 31) (hs : S[a]? = some (.inr (.int, n))) (ht : S[b]? = some (.inr (.int, m))) (hb : pg_ro ≤ b) : tm (d + 1) 129 [.ref a, .ref b] ((S, c, s), I, J, R) (.inl none) ((S, c, s), cpyf I a b (min n m), J, R) := by
  refine tm_of me_129 rfl (Nat.le_of_ble_eq_true rfl) ?_
  refine tt_S 5 [some (.ref a), some (.ref b)] [.ref a, .int 0, .ref b, .int 0, .ref a] ((S, c, s), I, J, R) (fun _ => rfl) ?_
  refine tt_L hs ?_
  refine tt_S 1 [some (.ref a), some (.ref b)] [.ref b, .int (nI n), .int 0, .ref b, .int 0, .ref a] ((S, c, s), I, J, R) (fun _ => rfl) ?_
  refine tt_L ht ?_
  refine tt_K 1 [some (.ref a), some (.ref b)] [.int 0, .ref b, .int 0, .ref a] ((S, c, s), I, J, R) (fun _ => rfl) (mg_min n m hn hm) ?_
  have h0 : (nI (min n m)).toNatClampNeg = min n m := nI_clamp (by omega)
  have z0 : (0 : Int32).toNatClampNeg = 0 := rfl
  refine tt_S 1 (L1 := [(14, 1, .return_, [], 0)]) [some (.ref a), some (.ref b)] [] ((S, c, s), cpyf I a b (min n m), J, R) (fun k => ?_) ⟨1, fun _ => rfl⟩
  show ex_inv pg_ro pg_mt (ex_run pg_ro pg_mt k) (d + 1) me_129.2.2.2.2.2.1 [7] _ [some (.ref a), some (.ref b)] [.int (nI (min n m)), .int 0, .ref b, .int 0, .ref a] ((S, c, s), I, J, R) = _
  unfold ex_inv
  dsimp only
  rw [hs, ht]
  dsimp only
  rw [if_pos ⟨⟨hb, Nat.le_of_ble_eq_true rfl⟩, by decide, by decide, nI_pos (by omega), by rw [h0, z0]; omega, by rw [h0, z0]; omega⟩, h0]
  rfl
theorem ci_16i {v : Int32} (g62 : S[62]? = some (.inl 2)) (g64 : S[64]? = some (.inr (.boolean, 4))) (r3 : R 62 3 = some 64) (hv : v < nI 4) (hi : ex_in v 4) (g : tt d me_16 bk_16_1 [some (.ref 62), some (.int (v + 1))] [] ((S, c, s), up I 64 v.toNatClampNeg (vp_nar .boolean 0), J, R) x w') : tt d me_16 bk_16_1 [some (.ref 62), some (.int v)] [] ((S, c, s), I, J, R) x w' := by
  refine tt_S 2 [some (.ref 62), some (.int v)] [.ref 62, .int v] ((S, c, s), I, J, R) (fun _ => rfl) ?_
  refine tn_gr g62 (by decide) (by decide) r3 ?_
  refine tn_lz g64 ?_
  refine tt_S 1 [some (.ref 62), some (.int v)] [] ((S, c, s), I, J, R) (fun _ => if_pos hv) ?_
  refine tn_a0 ?_
  refine tn_gr g62 (by decide) (by decide) r3 ?_
  refine tt_S 2 [some (.ref 62), some (.int v)] [.int 0, .int v, .ref 64] ((S, c, s), I, J, R) (fun _ => rfl) ?_
  refine tn_bs g64 hi (by decide) ?_
  exact tt_S 2 (L1 := bk_16_1) [some (.ref 62), some (.int (v + 1))] [] _ (fun _ => rfl) g
theorem ci_16 (g55 : S[55]? = some (.inr (.int, 4))) (g62 : S[62]? = some (.inl 2)) (g63 : S[63]? = some (.inr (.int, 4))) (g64 : S[64]? = some (.inr (.boolean, 4))) (g67 : S[67]? = some (.inl 3)) (r1 : R 62 1 = some 67) (r2 : R 62 2 = some 63) (r3 : R 62 3 = some 64) : tm (d + 2) 16 [.ref 62] ((S, c, s), I, J, R) (.inl none) ((S, c, s), (up (up (up (up (up (up (cpyf I 55 63 4) 64 0 0) 64 1 0) 64 2 0) 64 3 0) 62 6 0) 67 7 0), J, R) := by
  refine tm_of me_16 rfl (by decide) ?_
  refine tn_gs1 ?_
  refine tt_S 1 [some (.ref 62), none] [.ref 62, .ref 55] ((S, c, s), I, J, R) (fun _ => rfl) ?_
  refine tn_gr g62 (by decide) (by decide) r2 ?_
  refine tn_s2 (mg_copy 55 4 63 4 (by decide) (by decide) g55 g63 (by decide)) ?_
  refine tt_S 2 (L1 := bk_16_1) [some (.ref 62), some (.int 0)] [] ((S, c, s), cpyf I 55 63 4, J, R) (fun _ => rfl) ?_
  refine ci_16i g62 g64 r3 (by decide) (by decide) ?_
  refine ci_16i g62 g64 r3 (by decide) (by decide) ?_
  refine ci_16i g62 g64 r3 (by decide) (by decide) ?_
  refine ci_16i g62 g64 r3 (by decide) (by decide) ?_
  refine tt_S 2 [some (.ref 62), some (.int 4)] [.ref 62, .int 4] ((S, c, s), (up (up (up (up (cpyf I 55 63 4) 64 0 0) 64 1 0) 64 2 0) 64 3 0), J, R) (fun _ => rfl) ?_
  refine tn_gr g62 (by decide) (by decide) r3 ?_
  refine tn_lz g64 ?_
  refine tn_gej (by decide) ?_
  exact tn_a0 <| tn_ic <| tn_pi g62 (by decide) <| tn_a0 <| tn_gr g62 (by decide) (by decide) r1 <| tn_ic <| tn_pi g67 (by decide) <| tn_rt rfl
end RC
section C5
variable {d c s : Nat} {S : List ex_Sh} {I : Nat → Nat → Int32} {J : Nat → Nat → Int64} {R : Nat → Nat → Option Nat}
theorem ci_15 (h : S.length = 63) (g : S[62]? = some (.inl 2)) (g5 : S[55]? = some (.inr (.int, 4))) : tm (d + 3) 15 [.ref 62, .ref 60] ((S, c, s), I, J, R) (.inl none) (((((((((((((S ++ [.inr (.int, 4)]) ++ [.inr (.boolean, 4)]) ++ [.inr (.int, 8)]) ++ [.inr (.int, 8)]) ++ [.inl 3]) ++ [.inr (.int, 500)]) ++ [.inr (.int, 8)]) ++ [.inr (.int, 100)]) ++ [.inr (.boolean, 7)]) ++ [.inr (.int, 6)]) ++ [.inr (.int, 50)]), c + 1 + 1 + 1 + 1 + 1 + 1 + 1 + 1 + 1 + 1 + 1, s + 4 + 4 + 8 + 8 + 14 + 500 + 8 + 100 + 7 + 6 + 50), (up (up (up (up (up (up (cpyf (up (up (up (up (up (up (up (nw (nw (nw (nw (nw (nw (nw (up (up (nw (nw (nw (nw I 63) 64) 65) 66) 62 6 (0)) 62 7 (-1)) 67) 68) 69) 70) 71) 72) 73) 67 7 (0)) 67 8 (0)) 67 9 (0)) 67 10 (0)) 67 11 (1)) 67 12 (1)) 67 13 (0)) 55 63 4) 64 0 0) 64 1 0) 64 2 0) 64 3 0) 62 6 0) 67 7 0), (nw (nw (nw (nw (nw (nw (nw (nw (nw (nw (nw J 63) 64) 65) 66) 67) 68) 69) 70) 71) 72) 73), (up (up (up (up (up (up (up (up (nr (up (up (up (up (up R 62 2 (some 63)) 62 3 (some 64)) 62 4 (some 65)) 62 5 (some 66)) 62 0 (some 60)) 67) 67 1 (some 68)) 67 2 (some 69)) 67 3 (some 70)) 67 4 (some 71)) 67 5 (some 72)) 67 6 (some 73)) 67 0 (some 60)) 62 1 (some 67))) :=
  tm_of me_15 rfl (by decide) <| tn_a0 <|
  tn_oi <|
  tn_a0 <|
  tn_ic <|
  tn_arr (q := 4) h (by decide) <|
  tn_pr (ap_get g) (by decide) <|
  tn_a0 <|
  tn_ic <|
  tn_arr (q := 4) (ap_len h) (by decide) <|
  tn_pr (ap_get (ap_get g)) (by decide) <|
  tn_a0 <|
  tn_bi <|
  tn_arr (q := 8) (ap_len (ap_len h)) (by decide) <|
  tn_pr (ap_get (ap_get (ap_get g))) (by decide) <|
  tn_a0 <|
  tn_bi <|
  tn_arr (q := 8) (ap_len (ap_len (ap_len h))) (by decide) <|
  tn_pr (ap_get (ap_get (ap_get (ap_get g)))) (by decide) <|
  tn_a0 <|
  tn_ic <|
  tn_pi (ap_get (ap_get (ap_get (ap_get g)))) (by decide) <|
  tn_a0 <|
  tn_ic <|
  tn_pi (ap_get (ap_get (ap_get (ap_get g)))) (by decide) <|
  tn_a0 <|
  tn_a1 <|
  tn_pr (ap_get (ap_get (ap_get (ap_get g)))) (by decide) <|
  tn_a0 <|
  tn_new (q := 14) (ap_len (ap_len (ap_len (ap_len h)))) (by rfl) <|
  tn_dup <|
  tn_a1 <|
  tn_i2 (by decide) (ap_new (ap_len (ap_len (ap_len (ap_len h))))) (by decide) (by decide) (ci_24_67 (ap_len (ap_len (ap_len (ap_len (ap_len h))))) (ap_new (ap_len (ap_len (ap_len (ap_len h)))))) <|
  tn_pr (ap_get (ap_get (ap_get (ap_get (ap_get (ap_get (ap_get (ap_get (ap_get (ap_get (ap_get g))))))))))) (by decide) <|
  tn_a0 <|
  tn_v1 (by decide) (ap_get (ap_get (ap_get (ap_get (ap_get (ap_get (ap_get (ap_get (ap_get (ap_get (ap_get g))))))))))) (by decide) (by decide) (ci_16 (ap_get (ap_get (ap_get (ap_get (ap_get (ap_get (ap_get (ap_get (ap_get (ap_get (ap_get g5))))))))))) (ap_get (ap_get (ap_get (ap_get (ap_get (ap_get (ap_get (ap_get (ap_get (ap_get (ap_get g))))))))))) (ap_get (ap_get (ap_get (ap_get (ap_get (ap_get (ap_get (ap_get (ap_get (ap_get (ap_new h))))))))))) (ap_get (ap_get (ap_get (ap_get (ap_get (ap_get (ap_get (ap_get (ap_get (ap_new (ap_len h))))))))))) (ap_get (ap_get (ap_get (ap_get (ap_get (ap_get (ap_new (ap_len (ap_len (ap_len (ap_len h))))))))))) (by rfl) (by rfl) (by rfl)) <|
  tn_rt rfl
end C5
