/-! The start meets what the walk asks -/
def ad0 (b tA af : Nat) (aW aK aV aT : Nat → Nat) : Nat → Nat := fun i => if i = 0 then b else if i < 18 then aW (i - 1) else if i < 35 then aK (i - 18) else if i < 52 then aV (i - 35) else if i = 52 then tA else if i < 56 then aT (i - 53) else af
section SF
variable {b tA af : Nat} {aW aK aV aT : Nat → Nat}
theorem ad0_w {i : Nat} (h : i < 17) : ad0 b tA af aW aK aV aT (i + 1) = aW i := by
  unfold ad0
  rw [if_neg (by omega), if_pos (by omega)]
  rfl
theorem ad0_k {i : Nat} (h : i < 17) : ad0 b tA af aW aK aV aT (i + 18) = aK i := by
  unfold ad0
  rw [if_neg (by omega), if_neg (by omega), if_pos (by omega)]
  rfl
theorem ad0_v {i : Nat} (h : i < 17) : ad0 b tA af aW aK aV aT (i + 35) = aV i := by
  unfold ad0
  rw [if_neg (by omega), if_neg (by omega), if_neg (by omega), if_pos (by omega)]
  rfl
theorem ad0_a : ad0 b tA af aW aK aV aT 52 = tA := rfl
theorem ad0_t {i : Nat} (h : i < 3) : ad0 b tA af aW aK aV aT (i + 53) = aT i := by
  unfold ad0
  rw [if_neg (by omega), if_neg (by omega), if_neg (by omega), if_neg (by omega), if_neg (by omega), if_pos (by omega)]
  rfl
theorem ad0_f : ad0 b tA af aW aK aV aT 57 = af := rfl
end SF
theorem sts_w : ∀ i, i < 17 → pg_sts[i]? = some (wE, wN.getD i "", wD, 0, i + 1, 0)
  | 0, _ => rfl
  | 1, _ => rfl
  | 2, _ => rfl
  | 3, _ => rfl
  | 4, _ => rfl
  | 5, _ => rfl
  | 6, _ => rfl
  | 7, _ => rfl
  | 8, _ => rfl
  | 9, _ => rfl
  | 10, _ => rfl
  | 11, _ => rfl
  | 12, _ => rfl
  | 13, _ => rfl
  | 14, _ => rfl
  | 15, _ => rfl
  | 16, _ => rfl
  | n + 17, h => absurd h (by omega)
def w0 (L : Nat) (xs : Nat → Int32) (fm : Option Nat) : ex_W := ((S0 L, 0, 0), zI xs, (fun _ _ => 0), Rz fm)
theorem st_Fix {s : State} {b L : Nat} {xs : Nat → Int32} (hX : va_X b L xs s s.heap) (hbl : b < s.heap.size) (hts : ∀ w ∈ lw_tbl, w.before #[Value.ref b] s = true) (hgv : (Jvm.Cond.and given_1 narrow_1).before #[Value.ref b] s = true) : ∃ (D : va_G) (cA : FieldType → ClassId) (fm : Option Nat) (ad : Nat → Nat), ad 0 = b ∧ (fm = none ∨ fm = some 57) ∧ ex_Fix D cA s.heap.size 58 pg_sts pg_N ad (w0 L xs fm) s := by
  have hA : ∀ a : Nat, a < s.heap.size → ¬ (fun q : Nat => s.heap.size ≤ q) a := fun a h => Nat.not_le.mpr h
  obtain ⟨D, cA, hK⟩ := st_K hts
  obtain ⟨aW, w1, w2, w3⟩ := st_W (A := fun q : Nat => s.heap.size ≤ q) hts hgv hA
  obtain ⟨aK, aV, k1⟩ := st_S (A := fun q : Nat => s.heap.size ≤ q) hgv hA
  obtain ⟨aT, t1⟩ := st_T (A := fun q : Nat => s.heap.size ≤ q) hgv hA
  obtain ⟨tA, g1, g2⟩ := va_Tof (tm := wA) (ty := .object wE) (N := 17) (f := fun j => .ref (aW j)) (A := fun q : Nat => s.heap.size ≤ q) (by decide) (FA_before hgv _ _ na_aa) (va_eqt (FA_before hgv _ _ na_al)) (fun j hj => va_eqv (FA_before hgv _ _ (na_ae j hj)) (w3 j hj)) hA
  have sp := va_Efof (N := 17) (E := wE) (d0 := wD) (o := wE) (n := "spelled") (d := "Ljava/lang/String;") (nm := wN) (v := fun i => .ref (aK i)) (tm := wK) (ad := aW) (A := fun q : Nat => s.heap.size ≤ q) w3 (fun i hi => FA_before hgv _ _ (na_sp i hi)) (fun i hi => (k1 i hi).1) hA
  have ff : ∃ (fm : Option Nat) (af : Nat), (fm = none ∨ fm = some 57) ∧ va_Z "jdk/internal/util/Preconditions" "SIOOBE_FORMATTER" "Ljava/util/function/BiFunction;" (va_rf (fm.map fun _ => af)) (fun q : Nat => s.heap.size ≤ q) s s.heap := by
    rcases va_Zqof (A := fun q : Nat => s.heap.size ≤ q) (tb_before hts _ _ nt_lf) (tb_before hts _ _ nt_if) (FA_before hgv _ _ na_fo) hA with h | ⟨t, h⟩
    · exact ⟨none, 0, Or.inl rfl, h⟩
    · exact ⟨some 57, t, Or.inr rfl, h⟩
  obtain ⟨fm, af, hf, hz⟩ := ff
  refine ⟨D, cA, fm, ad0 b tA af aW aK aV aT, rfl, hf, hK, Nat.le_refl _, fun i sh hi hsh => ?_, fun i q hq => ?_, fun x hx => va_Nw.of (ex_nok_on (pg_nok x hx)) (hts x (pg_N_tbl x hx)), vx_Zqof (tb_before hts _ _ nt_lu) (tb_before hts _ _ nt_it) (FA_before hgv _ _ na_us) hA, vx_Zqof (tb_before hts _ _ nt_lx) (tb_before hts _ _ nt_it) (FA_before hgv _ _ na_ss) hA, va_Nc.of (FA_before hgv _ _ na_nc), fun i j hi hj h1 h2 h3 => ?_⟩
  · cases i with
    | zero =>
      have hsh : some (Sum.inr (.int, L)) = some sh := hsh
      cases hsh
      obtain ⟨scr, x1, x2, x3, x4, x5⟩ := hX
      exact ⟨scr, x1, x2, x3, Nat.le_of_eq x4.symm, by rw [x4], x5, Nat.not_le.mpr hbl⟩
    | succ i =>
      have hsh : (pg_S.take 57)[i]? = some sh := hsh
      rw [sh_at i (by omega)] at hsh
      have hsh := Option.some.inj hsh
      subst hsh
      unfold shT
      by_cases c1 : i < 17
      · rw [if_pos c1]
        refine fun _ => ⟨?_, fun k hk => ?_⟩
        · rw [ad0_w c1]
          exact (w1 i c1).2.1
        · rw [ad0_w c1]
          rcases (show k = 0 ∨ k = 1 by omega) with rfl | rfl
          · show va_OF wE "spelled" "Ljava/lang/String;" (va_rf ((Rz fm (i + 1) 0).map (ad0 b tA af aW aK aV aT))) (aW i) _ s s.heap
            rw [rz_g (by omega), rl_w i (by omega)]
            show va_OF wE "spelled" "Ljava/lang/String;" (.ref (ad0 b tA af aW aK aV aT (i + 18))) (aW i) _ s s.heap
            rw [ad0_k c1]
            exact sp i c1
          · show va_OF wE "value" "I" (.int (zI xs (i + 1) 1)) (aW i) _ s s.heap
            rw [zI_a (by omega), (zt_w i c1).2]
            exact (w1 i c1).2.2
      · rw [if_neg c1]
        by_cases c2 : i < 34
        · rw [if_pos c2]
          obtain ⟨j, rfl⟩ : ∃ j, i = j + 17 := ⟨i - 17, by omega⟩
          have cj : j < 17 := by omega
          refine fun _ => ⟨?_, fun k hk => ?_⟩
          · rw [show j + 17 + 1 = j + 18 from rfl, ad0_k cj]
            exact (k1 j cj).2.1
          · rw [show j + 17 + 1 = j + 18 from rfl, ad0_k cj]
            rcases (show k = 0 ∨ k = 1 by omega) with rfl | rfl
            · show va_OF "java/lang/String" "value" "[B" (va_rf ((Rz fm (j + 17 + 1) 0).map (ad0 b tA af aW aK aV aT))) (aK j) _ s s.heap
              rw [rz_g (by omega), rl_w (j + 17) (by omega)]
              show va_OF "java/lang/String" "value" "[B" (.ref (ad0 b tA af aW aK aV aT (j + 35))) (aK j) _ s s.heap
              rw [ad0_v cj]
              exact (k1 j cj).2.2.2.1
            · show va_OF "java/lang/String" "coder" "B" (.int (zI xs (j + 18) 1)) (aK j) _ s s.heap
              rw [zI_a (by omega), show j + 18 = 18 + j by omega, (zt_k j cj).1]
              exact (k1 j cj).2.2.1
        · rw [if_neg c2]
          by_cases c3 : i < 51
          · rw [if_pos c3]
            obtain ⟨j, rfl⟩ : ∃ j, i = j + 34 := ⟨i - 34, by omega⟩
            have cj : j < 17 := by omega
            rw [show j + 34 - 34 = j by omega]
            show va_T .byte (ad0 b tA af aW aK aV aT (j + 35)) (wtx j).length (fun x => .int (zI xs (j + 35) x)) _ s s.heap
            rw [ad0_v cj]
            refine T_congr (k1 j cj).2.2.2.2 fun x hx => ?_
            rw [zI_a (by omega), show j + 35 = 35 + j by omega, (zt_k j cj).2 x hx]
          · rw [if_neg c3]
            by_cases c4 : i = 51
            · rw [if_pos c4]
              subst c4
              show va_T (.object wE) tA 17 (fun x => va_rf ((Rz fm 52 x).map (ad0 b tA af aW aK aV aT))) _ s s.heap
              refine T_congr g2 fun x hx => ?_
              rw [rz_g (by decide), rl_a x hx]
              show Value.ref (aW x) = Value.ref (ad0 b tA af aW aK aV aT (x + 1))
              rw [ad0_w hx]
            · rw [if_neg c4]
              by_cases c5 : i < 55
              · rw [if_pos c5]
                obtain ⟨j, rfl⟩ : ∃ j, i = j + 52 := ⟨i - 52, by omega⟩
                have cj : j < 3 := by omega
                show va_T .int (ad0 b tA af aW aK aV aT (j + 53)) 4 (fun x => .int (zI xs (j + 53) x)) _ s s.heap
                rw [ad0_t cj]
                refine T_congr (t1 j cj).2 fun x hx => ?_
                rw [zI_a (by omega), show j + 53 = 53 + j by omega, zt_v j cj x hx]
              · rw [if_neg c5]
                exact fun h => absurd h (by decide)
  · by_cases c1 : i < 17
    · rw [sts_w i c1] at hq
      have hq := Option.some.inj hq
      subst hq
      show va_Z wE (wN.getD i "") wD (.ref (ad0 b tA af aW aK aV aT (i + 1))) _ s s.heap
      rw [ad0_w c1]
      exact (w1 i c1).1
    · obtain ⟨j, rfl⟩ : ∃ j, i = j + 17 := ⟨i - 17, by omega⟩
      match j, hq with
      | 0, hq =>
        cases hq
        exact va_Zof (tb_before hts _ _ nt_la) (tb_before hts _ _ nt_iw) g1 hA
      | 1, hq =>
        cases hq
        show va_Z _ _ _ (.ref (ad0 b tA af aW aK aV aT (0 + 53))) _ s s.heap
        rw [ad0_t (show 0 < 3 by decide)]
        exact va_Zof (tb_before hts _ _ (nt_lt 0 (by decide))) (tb_before hts _ _ nt_ip) (t1 0 (by decide)).1 hA
      | 2, hq =>
        cases hq
        show va_Z _ _ _ (.ref (ad0 b tA af aW aK aV aT (1 + 53))) _ s s.heap
        rw [ad0_t (show 1 < 3 by decide)]
        exact va_Zof (tb_before hts _ _ (nt_lt 1 (by decide))) (tb_before hts _ _ nt_ip) (t1 1 (by decide)).1 hA
      | 3, hq =>
        cases hq
        show va_Z _ _ _ (.ref (ad0 b tA af aW aK aV aT (2 + 53))) _ s s.heap
        rw [ad0_t (show 2 < 3 by decide)]
        exact va_Zof (tb_before hts _ _ (nt_lt 2 (by decide))) (tb_before hts _ _ nt_ip) (t1 2 (by decide)).1 hA
      | 4, hq =>
        cases hq
        show va_Z _ _ _ (ex_cv (ad0 b tA af aW aK aV aT) (va_rf fm)) _ s s.heap
        rcases hf with rfl | rfl
        · exact hz
        · exact hz
      | 5, hq =>
        cases hq
        exact va_Zof (tb_before hts _ _ nt_lc) (tb_before hts _ _ nt_is) (va_eqi (FA_before hgv _ _ na_co)) hA
      | n + 6, hq => exact absurd hq (by simp [pg_sts])
  · cases i with
    | zero => cases h1
    | succ i =>
      cases j with
      | zero => cases h2
      | succ j =>
        have h1 : (pg_S.take 57)[i]? = some (.inl 100) := h1
        have h2 : (pg_S.take 57)[j]? = some (.inl 100) := h2
        rw [sh_at i (by omega)] at h1
        rw [sh_at j (by omega)] at h2
        have l1 := sh_w i (by omega) (Option.some.inj h1)
        have l2 := sh_w j (by omega) (Option.some.inj h2)
        rw [ad0_w l1, ad0_w l2] at h3
        rw [w2 i j l1 l2 h3]
