/-! The program's debts are paid -/
theorem pg_mt_ok (mi : Nat) (M : ex_M) (h : pg_mt mi = some M) : ex_mok pg_T pg_N pg_mt pg_mp pg_tsl pg_ro pg_sts mi M = true := by
  have h9 := pg_ok (mi / 16) (mi % 16) M h
  rw [Nat.div_add_mod] at h9
  exact h9
theorem pg_mt_cw (mi : Nat) (M : ex_M) (h : pg_mt mi = some M) (hn : (pg_mp mi).getD 2 0 ≠ 3) : ex_cw M ∈ pg_T := by
  have h9 := pg_cw (mi / 16) (mi % 16) M h (by rw [Nat.div_add_mod]; exact hn)
  exact List.mem_append_right _ (List.mem_append_right _ (List.mem_append_right _ (List.mem_append_left _ h9)))
theorem pg_U_T {w : Cond} (h : w ∈ pg_U) : w ∈ pg_T := List.mem_append_right _ (List.mem_append_right _ (List.mem_append_left _ h))
theorem pg_W_T {w : Cond} (h : w ∈ pg_W) : w ∈ pg_T := List.mem_append_right _ (List.mem_append_left _ h)
theorem pg_hU : ∀ (ci : Nat) (q : vw_C), vwCl[ci]? = some q → ∀ w ∈ u_ws q.1 q.2.1 q.2.2, w ∈ pg_T := by
  intro ci q h w hw
  refine pg_U_T ?_
  unfold pg_U
  simp only [List.mem_append]
  match ci, h with
  | 0, h => cases h; simp only [hw, true_or, or_true]
  | 1, h => cases h; simp only [hw, true_or, or_true]
  | 2, h => cases h; simp only [hw, true_or, or_true]
  | 3, h => cases h; simp only [hw, true_or, or_true]
  | 4, h => cases h; simp only [hw, true_or, or_true]
  | 5, h => cases h; simp only [hw, true_or, or_true]
  | 6, h => cases h; simp only [hw, true_or, or_true]
  | 7, h => cases h; simp only [hw, true_or, or_true]
  | 8, h => cases h; simp only [hw, true_or, or_true]
  | 9, h => cases h; simp only [hw, true_or, or_true]
  | n + 10, h => exact absurd h (by simp)
theorem pg_sok : ex_sok pg_ro pg_sts := by
  have h : pg_sts.all (fun q => decide (q.2.2.2.2.1 < pg_ro)) = true := by decide +kernel
  intro i q hq
  exact of_decide_eq_true (List.all_eq_true.mp h q (List.mem_of_getElem? hq))
theorem pg_good : ∀ w ∈ pg_T, goodWord w = true := by
  have h : pg_T.all goodWord = true := by decide +kernel
  exact List.all_eq_true.mp h
theorem pg_nok : ∀ x ∈ pg_N, ex_nok x = true := by
  have h : pg_N.all ex_nok = true := by decide +kernel
  exact List.all_eq_true.mp h
theorem pg_thr : ∀ q ∈ pg_tsl, ∀ w ∈ vx_at0 q.1 q.2.1 (ex_en q.2.2) ex_es, (w ∈ pg_T ∨ w ∈ pg_N) ∧ vx_ot w = true := by
  have hx : ∀ q ∈ pg_tsl, ∀ w ∈ (vx_at0 q.1 q.2.1 (ex_en q.2.2) ex_es).filter goodWord, w ∈ pg_X := by
    intro q hq w hw
    simp only [pg_tsl, List.mem_cons, List.not_mem_nil, or_false] at hq
    rcases hq with rfl | rfl
    · exact List.mem_append_left _ hw
    · exact List.mem_append_right _ hw
  have hn : ∀ q ∈ pg_tsl, ((vx_at0 q.1 q.2.1 (ex_en q.2.2) ex_es).filter (fun w => !goodWord w)).all (fun w => decide (w ∈ pg_N)) = true := by decide +kernel
  have ho : ∀ q ∈ pg_tsl, (vx_at0 q.1 q.2.1 (ex_en q.2.2) ex_es).all vx_ot = true := by decide +kernel
  intro q hq w hw
  refine ⟨?_, List.all_eq_true.mp (ho q hq) w hw⟩
  by_cases hg : goodWord w = true
  · exact Or.inl (List.mem_append_right _ (List.mem_append_right _ (List.mem_append_right _ (List.mem_append_right _ (hx q hq w (List.mem_filter.mpr ⟨hw, hg⟩))))))
  · exact Or.inr (of_decide_eq_true (List.all_eq_true.mp (hn q hq) w (List.mem_filter.mpr ⟨hw, by simp [hg]⟩)))
theorem pg_T_in : ∀ w ∈ pg_T, w ∈ lw_tbl := by
  intro w hw
  rcases List.mem_append.mp hw with hw | hw
  · exact List.mem_append_left _ hw
  rcases List.mem_append.mp hw with hw | hw
  · exact List.mem_append_right _ (ex_subl_in _ _ pg_W_in w hw)
  rcases List.mem_append.mp hw with hw | hw
  · refine List.mem_append_right _ ?_
    unfold pg_U at hw
    simp only [List.mem_append] at hw
    rcases hw with hw | hw | hw | hw | hw | hw | hw | hw | hw | hw
    · exact ex_subl_in _ _ pg_U0_in w hw
    · exact ex_subl_in _ _ pg_U1_in w hw
    · exact ex_subl_in _ _ pg_U2_in w hw
    · exact ex_subl_in _ _ pg_U3_in w hw
    · exact ex_subl_in _ _ pg_U4_in w hw
    · exact ex_subl_in _ _ pg_U5_in w hw
    · exact ex_subl_in _ _ pg_U6_in w hw
    · exact ex_subl_in _ _ pg_U7_in w hw
    · exact ex_subl_in _ _ pg_U9_in w hw
    · exact ex_subl_in _ _ pg_U10_in w hw
  rcases List.mem_append.mp hw with hw | hw
  · exact pg_C_in w hw
  · exact pg_X_in w hw
theorem pg_N_tbl : ∀ w ∈ pg_N, w ∈ lw_tbl := fun w hw => List.mem_append_right _ (ex_subl_in _ _ pg_N_in w hw)
theorem pg_Hyp {l : Launch} (hl : l.stackTraces = false) : ex_Hyp l pg_T pg_N pg_mt pg_mp pg_tsl pg_ro pg_sts :=
  ⟨hl, pg_mt_ok, pg_hU, pg_sok, pg_good, pg_nok, pg_thr, pg_mt_cw, ⟨pg_W_T (by decide +kernel), List.mem_append_right _ (List.mem_append_right _ (List.mem_append_right _ (List.mem_append_left _ List.mem_cons_self)))⟩,
    ⟨pg_W_T (by decide +kernel), pg_W_T (by decide +kernel), pg_W_T (by decide +kernel)⟩, fun x hx => by
      rcases (show x = 0 ∨ x = 1 by omega) with rfl | rfl
      · exact ⟨pg_W_T (by decide +kernel), by decide +kernel⟩
      · exact ⟨pg_W_T (by decide +kernel), by decide +kernel⟩⟩
