/-! What the program owes (written by wip/whole/gen.py) -/
theorem ex_lok_c {M0 row : _} {L : List ex_R} (h : ex_rok pg_T pg_N pg_mt pg_mp pg_tsl pg_ro pg_sts M0 row L = true) (h2 : ex_lok pg_T pg_N pg_mt pg_mp pg_tsl pg_ro pg_sts M0 L = true) : ex_lok pg_T pg_N pg_mt pg_mp pg_tsl pg_ro pg_sts M0 (row :: L) = true := by rw [ex_lok, h, h2]; rfl
theorem lk_67 : ex_lok pg_T pg_N pg_mt pg_mp pg_tsl pg_ro pg_sts me_239 bk_239_67 = true := ex_lok_c (by decide +kernel) (ex_lok_c (by decide +kernel) (rfl))
theorem lk_66 : ex_lok pg_T pg_N pg_mt pg_mp pg_tsl pg_ro pg_sts me_239 bk_239_66 = true := ex_lok_c (by decide +kernel) (ex_lok_c (by decide +kernel) (rfl))
theorem lk_65 : ex_lok pg_T pg_N pg_mt pg_mp pg_tsl pg_ro pg_sts me_239 bk_239_65 = true := ex_lok_c (by decide +kernel) (ex_lok_c (by decide +kernel) (ex_lok_c (by decide +kernel) (ex_lok_c (by decide +kernel) (ex_lok_c (by decide +kernel) (ex_lok_c (by decide +kernel) (ex_lok_c (by decide +kernel) (rfl)))))))
theorem lk_64 : ex_lok pg_T pg_N pg_mt pg_mp pg_tsl pg_ro pg_sts me_239 bk_239_64 = true := ex_lok_c (by decide +kernel) (ex_lok_c (by decide +kernel) (ex_lok_c (by decide +kernel) (ex_lok_c (by decide +kernel) (ex_lok_c (by decide +kernel) (rfl)))))
theorem lk_63 : ex_lok pg_T pg_N pg_mt pg_mp pg_tsl pg_ro pg_sts me_239 bk_239_63 = true := ex_lok_c (by decide +kernel) (rfl)
theorem lk_62 : ex_lok pg_T pg_N pg_mt pg_mp pg_tsl pg_ro pg_sts me_239 bk_239_62 = true := ex_lok_c (by decide +kernel) (ex_lok_c (by decide +kernel) (ex_lok_c (by decide +kernel) (ex_lok_c (by decide +kernel) (ex_lok_c (by decide +kernel) (ex_lok_c (by decide +kernel) (ex_lok_c (by decide +kernel) (ex_lok_c (by decide +kernel) (ex_lok_c (by decide +kernel) (ex_lok_c (by decide +kernel) (ex_lok_c (by decide +kernel) (rfl)))))))))))
theorem lk_61 : ex_lok pg_T pg_N pg_mt pg_mp pg_tsl pg_ro pg_sts me_239 bk_239_61 = true := ex_lok_c (by decide +kernel) (ex_lok_c (by decide +kernel) (ex_lok_c (by decide +kernel) (ex_lok_c (by decide +kernel) (ex_lok_c (by decide +kernel) (ex_lok_c (by decide +kernel) (ex_lok_c (by decide +kernel) (ex_lok_c (by decide +kernel) (rfl))))))))
theorem lk_60 : ex_lok pg_T pg_N pg_mt pg_mp pg_tsl pg_ro pg_sts me_239 bk_239_60 = true := ex_lok_c (by decide +kernel) (lk_61)
theorem lk_59 : ex_lok pg_T pg_N pg_mt pg_mp pg_tsl pg_ro pg_sts me_239 bk_239_59 = true := ex_lok_c (by decide +kernel) (ex_lok_c (by decide +kernel) (ex_lok_c (by decide +kernel) (ex_lok_c (by decide +kernel) (ex_lok_c (by decide +kernel) (ex_lok_c (by decide +kernel) (ex_lok_c (by decide +kernel) (ex_lok_c (by decide +kernel) (ex_lok_c (by decide +kernel) (ex_lok_c (by decide +kernel) (ex_lok_c (by decide +kernel) (ex_lok_c (by decide +kernel) (ex_lok_c (by decide +kernel) (ex_lok_c (by decide +kernel) (ex_lok_c (by decide +kernel) (ex_lok_c (by decide +kernel) (ex_lok_c (by decide +kernel) (rfl)))))))))))))))))
theorem lk_58 : ex_lok pg_T pg_N pg_mt pg_mp pg_tsl pg_ro pg_sts me_239 bk_239_58 = true := ex_lok_c (by decide +kernel) (lk_59)
theorem lk_57 : ex_lok pg_T pg_N pg_mt pg_mp pg_tsl pg_ro pg_sts me_239 bk_239_57 = true := ex_lok_c (by decide +kernel) (ex_lok_c (by decide +kernel) (ex_lok_c (by decide +kernel) (ex_lok_c (by decide +kernel) (ex_lok_c (by decide +kernel) (ex_lok_c (by decide +kernel) (ex_lok_c (by decide +kernel) (ex_lok_c (by decide +kernel) (ex_lok_c (by decide +kernel) (ex_lok_c (by decide +kernel) (ex_lok_c (by decide +kernel) (ex_lok_c (by decide +kernel) (ex_lok_c (by decide +kernel) (ex_lok_c (by decide +kernel) (rfl))))))))))))))
theorem lk_56 : ex_lok pg_T pg_N pg_mt pg_mp pg_tsl pg_ro pg_sts me_239 bk_239_56 = true := ex_lok_c (by decide +kernel) (rfl)
theorem lk_55 : ex_lok pg_T pg_N pg_mt pg_mp pg_tsl pg_ro pg_sts me_239 bk_239_55 = true := ex_lok_c (by decide +kernel) (ex_lok_c (by decide +kernel) (ex_lok_c (by decide +kernel) (ex_lok_c (by decide +kernel) (ex_lok_c (by decide +kernel) (ex_lok_c (by decide +kernel) (ex_lok_c (by decide +kernel) (ex_lok_c (by decide +kernel) (ex_lok_c (by decide +kernel) (ex_lok_c (by decide +kernel) (ex_lok_c (by decide +kernel) (rfl)))))))))))
theorem lk_54 : ex_lok pg_T pg_N pg_mt pg_mp pg_tsl pg_ro pg_sts me_239 bk_239_54 = true := ex_lok_c (by decide +kernel) (ex_lok_c (by decide +kernel) (ex_lok_c (by decide +kernel) (ex_lok_c (by decide +kernel) (ex_lok_c (by decide +kernel) (ex_lok_c (by decide +kernel) (ex_lok_c (by decide +kernel) (ex_lok_c (by decide +kernel) (ex_lok_c (by decide +kernel) (ex_lok_c (by decide +kernel) (ex_lok_c (by decide +kernel) (ex_lok_c (by decide +kernel) (ex_lok_c (by decide +kernel) (ex_lok_c (by decide +kernel) (ex_lok_c (by decide +kernel) (ex_lok_c (by decide +kernel) (ex_lok_c (by decide +kernel) (ex_lok_c (by decide +kernel) (ex_lok_c (by decide +kernel) (ex_lok_c (by decide +kernel) (ex_lok_c (by decide +kernel) (ex_lok_c (by decide +kernel) (ex_lok_c (by decide +kernel) (ex_lok_c (by decide +kernel) (ex_lok_c (by decide +kernel) (ex_lok_c (by decide +kernel) (ex_lok_c (by decide +kernel) (ex_lok_c (by decide +kernel) (ex_lok_c (by decide +kernel) (ex_lok_c (by decide +kernel) (ex_lok_c (by decide +kernel) (ex_lok_c (by decide +kernel) (ex_lok_c (by decide +kernel) (ex_lok_c (by decide +kernel) (ex_lok_c (by decide +kernel) (ex_lok_c (by decide +kernel) (ex_lok_c (by decide +kernel) (ex_lok_c (by decide +kernel) (ex_lok_c (by decide +kernel) (ex_lok_c (by decide +kernel) (ex_lok_c (by decide +kernel) (ex_lok_c (by decide +kernel) (ex_lok_c (by decide +kernel) (rfl)))))))))))))))))))))))))))))))))))))))))))
theorem lk_53 : ex_lok pg_T pg_N pg_mt pg_mp pg_tsl pg_ro pg_sts me_239 bk_239_53 = true := ex_lok_c (by decide +kernel) (rfl)
theorem lk_52 : ex_lok pg_T pg_N pg_mt pg_mp pg_tsl pg_ro pg_sts me_239 bk_239_52 = true := ex_lok_c (by decide +kernel) (ex_lok_c (by decide +kernel) (ex_lok_c (by decide +kernel) (ex_lok_c (by decide +kernel) (ex_lok_c (by decide +kernel) (ex_lok_c (by decide +kernel) (ex_lok_c (by decide +kernel) (ex_lok_c (by decide +kernel) (ex_lok_c (by decide +kernel) (ex_lok_c (by decide +kernel) (ex_lok_c (by decide +kernel) (rfl)))))))))))
theorem lk_51 : ex_lok pg_T pg_N pg_mt pg_mp pg_tsl pg_ro pg_sts me_239 bk_239_51 = true := ex_lok_c (by decide +kernel) (ex_lok_c (by decide +kernel) (ex_lok_c (by decide +kernel) (ex_lok_c (by decide +kernel) (ex_lok_c (by decide +kernel) (ex_lok_c (by decide +kernel) (ex_lok_c (by decide +kernel) (ex_lok_c (by decide +kernel) (ex_lok_c (by decide +kernel) (ex_lok_c (by decide +kernel) (ex_lok_c (by decide +kernel) (ex_lok_c (by decide +kernel) (ex_lok_c (by decide +kernel) (ex_lok_c (by decide +kernel) (ex_lok_c (by decide +kernel) (ex_lok_c (by decide +kernel) (ex_lok_c (by decide +kernel) (ex_lok_c (by decide +kernel) (ex_lok_c (by decide +kernel) (ex_lok_c (by decide +kernel) (ex_lok_c (by decide +kernel) (ex_lok_c (by decide +kernel) (ex_lok_c (by decide +kernel) (rfl)))))))))))))))))))))))
theorem lk_50 : ex_lok pg_T pg_N pg_mt pg_mp pg_tsl pg_ro pg_sts me_239 bk_239_50 = true := ex_lok_c (by decide +kernel) (ex_lok_c (by decide +kernel) (ex_lok_c (by decide +kernel) (ex_lok_c (by decide +kernel) (ex_lok_c (by decide +kernel) (rfl)))))
theorem lk_49 : ex_lok pg_T pg_N pg_mt pg_mp pg_tsl pg_ro pg_sts me_239 bk_239_49 = true := ex_lok_c (by decide +kernel) (ex_lok_c (by decide +kernel) (ex_lok_c (by decide +kernel) (ex_lok_c (by decide +kernel) (ex_lok_c (by decide +kernel) (ex_lok_c (by decide +kernel) (ex_lok_c (by decide +kernel) (ex_lok_c (by decide +kernel) (rfl))))))))
theorem lk_48 : ex_lok pg_T pg_N pg_mt pg_mp pg_tsl pg_ro pg_sts me_239 bk_239_48 = true := ex_lok_c (by decide +kernel) (rfl)
theorem lk_47 : ex_lok pg_T pg_N pg_mt pg_mp pg_tsl pg_ro pg_sts me_239 bk_239_47 = true := ex_lok_c (by decide +kernel) (ex_lok_c (by decide +kernel) (ex_lok_c (by decide +kernel) (ex_lok_c (by decide +kernel) (ex_lok_c (by decide +kernel) (ex_lok_c (by decide +kernel) (ex_lok_c (by decide +kernel) (ex_lok_c (by decide +kernel) (ex_lok_c (by decide +kernel) (ex_lok_c (by decide +kernel) (ex_lok_c (by decide +kernel) (rfl)))))))))))
theorem lk_46 : ex_lok pg_T pg_N pg_mt pg_mp pg_tsl pg_ro pg_sts me_239 bk_239_46 = true := ex_lok_c (by decide +kernel) (ex_lok_c (by decide +kernel) (ex_lok_c (by decide +kernel) (ex_lok_c (by decide +kernel) (ex_lok_c (by decide +kernel) (ex_lok_c (by decide +kernel) (ex_lok_c (by decide +kernel) (ex_lok_c (by decide +kernel) (ex_lok_c (by decide +kernel) (ex_lok_c (by decide +kernel) (ex_lok_c (by decide +kernel) (ex_lok_c (by decide +kernel) (ex_lok_c (by decide +kernel) (ex_lok_c (by decide +kernel) (ex_lok_c (by decide +kernel) (ex_lok_c (by decide +kernel) (ex_lok_c (by decide +kernel) (ex_lok_c (by decide +kernel) (ex_lok_c (by decide +kernel) (ex_lok_c (by decide +kernel) (ex_lok_c (by decide +kernel) (ex_lok_c (by decide +kernel) (ex_lok_c (by decide +kernel) (rfl)))))))))))))))))))))))
theorem lk_45 : ex_lok pg_T pg_N pg_mt pg_mp pg_tsl pg_ro pg_sts me_239 bk_239_45 = true := ex_lok_c (by decide +kernel) (ex_lok_c (by decide +kernel) (ex_lok_c (by decide +kernel) (ex_lok_c (by decide +kernel) (ex_lok_c (by decide +kernel) (ex_lok_c (by decide +kernel) (ex_lok_c (by decide +kernel) (rfl)))))))
theorem lk_44 : ex_lok pg_T pg_N pg_mt pg_mp pg_tsl pg_ro pg_sts me_239 bk_239_44 = true := ex_lok_c (by decide +kernel) (ex_lok_c (by decide +kernel) (ex_lok_c (by decide +kernel) (ex_lok_c (by decide +kernel) (ex_lok_c (by decide +kernel) (ex_lok_c (by decide +kernel) (ex_lok_c (by decide +kernel) (ex_lok_c (by decide +kernel) (ex_lok_c (by decide +kernel) (ex_lok_c (by decide +kernel) (ex_lok_c (by decide +kernel) (ex_lok_c (by decide +kernel) (ex_lok_c (by decide +kernel) (ex_lok_c (by decide +kernel) (ex_lok_c (by decide +kernel) (ex_lok_c (by decide +kernel) (ex_lok_c (by decide +kernel) (ex_lok_c (by decide +kernel) (ex_lok_c (by decide +kernel) (ex_lok_c (by decide +kernel) (ex_lok_c (by decide +kernel) (ex_lok_c (by decide +kernel) (ex_lok_c (by decide +kernel) (ex_lok_c (by decide +kernel) (ex_lok_c (by decide +kernel) (ex_lok_c (by decide +kernel) (ex_lok_c (by decide +kernel) (ex_lok_c (by decide +kernel) (ex_lok_c (by decide +kernel) (ex_lok_c (by decide +kernel) (ex_lok_c (by decide +kernel) (ex_lok_c (by decide +kernel) (ex_lok_c (by decide +kernel) (ex_lok_c (by decide +kernel) (ex_lok_c (by decide +kernel) (ex_lok_c (by decide +kernel) (ex_lok_c (by decide +kernel) (ex_lok_c (by decide +kernel) (ex_lok_c (by decide +kernel) (ex_lok_c (by decide +kernel) (ex_lok_c (by decide +kernel) (ex_lok_c (by decide +kernel) (ex_lok_c (by decide +kernel) (ex_lok_c (by decide +kernel) (ex_lok_c (by decide +kernel) (ex_lok_c (by decide +kernel) (ex_lok_c (by decide +kernel) (rfl)))))))))))))))))))))))))))))))))))))))))))))))
theorem lk_43 : ex_lok pg_T pg_N pg_mt pg_mp pg_tsl pg_ro pg_sts me_239 bk_239_43 = true := ex_lok_c (by decide +kernel) (rfl)
theorem lk_42 : ex_lok pg_T pg_N pg_mt pg_mp pg_tsl pg_ro pg_sts me_239 bk_239_42 = true := ex_lok_c (by decide +kernel) (ex_lok_c (by decide +kernel) (ex_lok_c (by decide +kernel) (ex_lok_c (by decide +kernel) (ex_lok_c (by decide +kernel) (ex_lok_c (by decide +kernel) (ex_lok_c (by decide +kernel) (ex_lok_c (by decide +kernel) (ex_lok_c (by decide +kernel) (ex_lok_c (by decide +kernel) (ex_lok_c (by decide +kernel) (rfl)))))))))))
theorem lk_41 : ex_lok pg_T pg_N pg_mt pg_mp pg_tsl pg_ro pg_sts me_239 bk_239_41 = true := ex_lok_c (by decide +kernel) (ex_lok_c (by decide +kernel) (ex_lok_c (by decide +kernel) (ex_lok_c (by decide +kernel) (ex_lok_c (by decide +kernel) (ex_lok_c (by decide +kernel) (ex_lok_c (by decide +kernel) (ex_lok_c (by decide +kernel) (ex_lok_c (by decide +kernel) (ex_lok_c (by decide +kernel) (ex_lok_c (by decide +kernel) (ex_lok_c (by decide +kernel) (ex_lok_c (by decide +kernel) (ex_lok_c (by decide +kernel) (ex_lok_c (by decide +kernel) (ex_lok_c (by decide +kernel) (ex_lok_c (by decide +kernel) (ex_lok_c (by decide +kernel) (ex_lok_c (by decide +kernel) (ex_lok_c (by decide +kernel) (ex_lok_c (by decide +kernel) (ex_lok_c (by decide +kernel) (ex_lok_c (by decide +kernel) (rfl)))))))))))))))))))))))
theorem lk_40 : ex_lok pg_T pg_N pg_mt pg_mp pg_tsl pg_ro pg_sts me_239 bk_239_40 = true := ex_lok_c (by decide +kernel) (rfl)
theorem lk_39 : ex_lok pg_T pg_N pg_mt pg_mp pg_tsl pg_ro pg_sts me_239 bk_239_39 = true := ex_lok_c (by decide +kernel) (ex_lok_c (by decide +kernel) (ex_lok_c (by decide +kernel) (ex_lok_c (by decide +kernel) (ex_lok_c (by decide +kernel) (ex_lok_c (by decide +kernel) (ex_lok_c (by decide +kernel) (ex_lok_c (by decide +kernel) (ex_lok_c (by decide +kernel) (ex_lok_c (by decide +kernel) (ex_lok_c (by decide +kernel) (rfl)))))))))))
theorem lk_38 : ex_lok pg_T pg_N pg_mt pg_mp pg_tsl pg_ro pg_sts me_239 bk_239_38 = true := ex_lok_c (by decide +kernel) (ex_lok_c (by decide +kernel) (ex_lok_c (by decide +kernel) (ex_lok_c (by decide +kernel) (ex_lok_c (by decide +kernel) (ex_lok_c (by decide +kernel) (ex_lok_c (by decide +kernel) (ex_lok_c (by decide +kernel) (ex_lok_c (by decide +kernel) (ex_lok_c (by decide +kernel) (ex_lok_c (by decide +kernel) (ex_lok_c (by decide +kernel) (ex_lok_c (by decide +kernel) (ex_lok_c (by decide +kernel) (ex_lok_c (by decide +kernel) (ex_lok_c (by decide +kernel) (ex_lok_c (by decide +kernel) (ex_lok_c (by decide +kernel) (ex_lok_c (by decide +kernel) (ex_lok_c (by decide +kernel) (ex_lok_c (by decide +kernel) (ex_lok_c (by decide +kernel) (ex_lok_c (by decide +kernel) (rfl)))))))))))))))))))))))
theorem lk_37 : ex_lok pg_T pg_N pg_mt pg_mp pg_tsl pg_ro pg_sts me_239 bk_239_37 = true := ex_lok_c (by decide +kernel) (rfl)
theorem lk_36 : ex_lok pg_T pg_N pg_mt pg_mp pg_tsl pg_ro pg_sts me_239 bk_239_36 = true := ex_lok_c (by decide +kernel) (ex_lok_c (by decide +kernel) (ex_lok_c (by decide +kernel) (ex_lok_c (by decide +kernel) (ex_lok_c (by decide +kernel) (ex_lok_c (by decide +kernel) (ex_lok_c (by decide +kernel) (ex_lok_c (by decide +kernel) (ex_lok_c (by decide +kernel) (ex_lok_c (by decide +kernel) (ex_lok_c (by decide +kernel) (rfl)))))))))))
theorem lk_35 : ex_lok pg_T pg_N pg_mt pg_mp pg_tsl pg_ro pg_sts me_239 bk_239_35 = true := ex_lok_c (by decide +kernel) (ex_lok_c (by decide +kernel) (ex_lok_c (by decide +kernel) (ex_lok_c (by decide +kernel) (ex_lok_c (by decide +kernel) (ex_lok_c (by decide +kernel) (ex_lok_c (by decide +kernel) (ex_lok_c (by decide +kernel) (ex_lok_c (by decide +kernel) (ex_lok_c (by decide +kernel) (ex_lok_c (by decide +kernel) (ex_lok_c (by decide +kernel) (ex_lok_c (by decide +kernel) (ex_lok_c (by decide +kernel) (ex_lok_c (by decide +kernel) (ex_lok_c (by decide +kernel) (ex_lok_c (by decide +kernel) (ex_lok_c (by decide +kernel) (ex_lok_c (by decide +kernel) (ex_lok_c (by decide +kernel) (ex_lok_c (by decide +kernel) (ex_lok_c (by decide +kernel) (ex_lok_c (by decide +kernel) (ex_lok_c (by decide +kernel) (ex_lok_c (by decide +kernel) (ex_lok_c (by decide +kernel) (ex_lok_c (by decide +kernel) (ex_lok_c (by decide +kernel) (ex_lok_c (by decide +kernel) (ex_lok_c (by decide +kernel) (ex_lok_c (by decide +kernel) (ex_lok_c (by decide +kernel) (ex_lok_c (by decide +kernel) (ex_lok_c (by decide +kernel) (ex_lok_c (by decide +kernel) (ex_lok_c (by decide +kernel) (ex_lok_c (by decide +kernel) (ex_lok_c (by decide +kernel) (ex_lok_c (by decide +kernel) (ex_lok_c (by decide +kernel) (ex_lok_c (by decide +kernel) (ex_lok_c (by decide +kernel) (ex_lok_c (by decide +kernel) (rfl)))))))))))))))))))))))))))))))))))))))))))
theorem lk_34 : ex_lok pg_T pg_N pg_mt pg_mp pg_tsl pg_ro pg_sts me_239 bk_239_34 = true := ex_lok_c (by decide +kernel) (rfl)
theorem lk_33 : ex_lok pg_T pg_N pg_mt pg_mp pg_tsl pg_ro pg_sts me_239 bk_239_33 = true := ex_lok_c (by decide +kernel) (ex_lok_c (by decide +kernel) (ex_lok_c (by decide +kernel) (ex_lok_c (by decide +kernel) (ex_lok_c (by decide +kernel) (ex_lok_c (by decide +kernel) (ex_lok_c (by decide +kernel) (ex_lok_c (by decide +kernel) (ex_lok_c (by decide +kernel) (ex_lok_c (by decide +kernel) (rfl))))))))))
theorem lk_32 : ex_lok pg_T pg_N pg_mt pg_mp pg_tsl pg_ro pg_sts me_239 bk_239_32 = true := ex_lok_c (by decide +kernel) (ex_lok_c (by decide +kernel) (ex_lok_c (by decide +kernel) (ex_lok_c (by decide +kernel) (ex_lok_c (by decide +kernel) (ex_lok_c (by decide +kernel) (ex_lok_c (by decide +kernel) (ex_lok_c (by decide +kernel) (ex_lok_c (by decide +kernel) (ex_lok_c (by decide +kernel) (ex_lok_c (by decide +kernel) (ex_lok_c (by decide +kernel) (ex_lok_c (by decide +kernel) (ex_lok_c (by decide +kernel) (ex_lok_c (by decide +kernel) (ex_lok_c (by decide +kernel) (ex_lok_c (by decide +kernel) (ex_lok_c (by decide +kernel) (ex_lok_c (by decide +kernel) (ex_lok_c (by decide +kernel) (ex_lok_c (by decide +kernel) (ex_lok_c (by decide +kernel) (ex_lok_c (by decide +kernel) (ex_lok_c (by decide +kernel) (ex_lok_c (by decide +kernel) (ex_lok_c (by decide +kernel) (ex_lok_c (by decide +kernel) (ex_lok_c (by decide +kernel) (ex_lok_c (by decide +kernel) (ex_lok_c (by decide +kernel) (ex_lok_c (by decide +kernel) (ex_lok_c (by decide +kernel) (ex_lok_c (by decide +kernel) (ex_lok_c (by decide +kernel) (ex_lok_c (by decide +kernel) (ex_lok_c (by decide +kernel) (ex_lok_c (by decide +kernel) (ex_lok_c (by decide +kernel) (ex_lok_c (by decide +kernel) (ex_lok_c (by decide +kernel) (ex_lok_c (by decide +kernel) (ex_lok_c (by decide +kernel) (ex_lok_c (by decide +kernel) (ex_lok_c (by decide +kernel) (ex_lok_c (by decide +kernel) (ex_lok_c (by decide +kernel) (ex_lok_c (by decide +kernel) (ex_lok_c (by decide +kernel) (ex_lok_c (by decide +kernel) (ex_lok_c (by decide +kernel) (ex_lok_c (by decide +kernel) (ex_lok_c (by decide +kernel) (ex_lok_c (by decide +kernel) (rfl)))))))))))))))))))))))))))))))))))))))))))))))))))))
theorem lk_31 : ex_lok pg_T pg_N pg_mt pg_mp pg_tsl pg_ro pg_sts me_239 bk_239_31 = true := ex_lok_c (by decide +kernel) (rfl)
theorem lk_30 : ex_lok pg_T pg_N pg_mt pg_mp pg_tsl pg_ro pg_sts me_239 bk_239_30 = true := ex_lok_c (by decide +kernel) (ex_lok_c (by decide +kernel) (ex_lok_c (by decide +kernel) (ex_lok_c (by decide +kernel) (ex_lok_c (by decide +kernel) (ex_lok_c (by decide +kernel) (ex_lok_c (by decide +kernel) (ex_lok_c (by decide +kernel) (ex_lok_c (by decide +kernel) (ex_lok_c (by decide +kernel) (ex_lok_c (by decide +kernel) (rfl)))))))))))
theorem lk_29 : ex_lok pg_T pg_N pg_mt pg_mp pg_tsl pg_ro pg_sts me_239 bk_239_29 = true := ex_lok_c (by decide +kernel) (ex_lok_c (by decide +kernel) (ex_lok_c (by decide +kernel) (ex_lok_c (by decide +kernel) (ex_lok_c (by decide +kernel) (ex_lok_c (by decide +kernel) (ex_lok_c (by decide +kernel) (ex_lok_c (by decide +kernel) (ex_lok_c (by decide +kernel) (ex_lok_c (by decide +kernel) (ex_lok_c (by decide +kernel) (ex_lok_c (by decide +kernel) (ex_lok_c (by decide +kernel) (ex_lok_c (by decide +kernel) (ex_lok_c (by decide +kernel) (ex_lok_c (by decide +kernel) (ex_lok_c (by decide +kernel) (ex_lok_c (by decide +kernel) (ex_lok_c (by decide +kernel) (ex_lok_c (by decide +kernel) (ex_lok_c (by decide +kernel) (ex_lok_c (by decide +kernel) (ex_lok_c (by decide +kernel) (rfl)))))))))))))))))))))))
theorem lk_28 : ex_lok pg_T pg_N pg_mt pg_mp pg_tsl pg_ro pg_sts me_239 bk_239_28 = true := ex_lok_c (by decide +kernel) (rfl)
theorem lk_27 : ex_lok pg_T pg_N pg_mt pg_mp pg_tsl pg_ro pg_sts me_239 bk_239_27 = true := ex_lok_c (by decide +kernel) (ex_lok_c (by decide +kernel) (ex_lok_c (by decide +kernel) (ex_lok_c (by decide +kernel) (ex_lok_c (by decide +kernel) (ex_lok_c (by decide +kernel) (ex_lok_c (by decide +kernel) (ex_lok_c (by decide +kernel) (ex_lok_c (by decide +kernel) (ex_lok_c (by decide +kernel) (ex_lok_c (by decide +kernel) (rfl)))))))))))
theorem lk_26 : ex_lok pg_T pg_N pg_mt pg_mp pg_tsl pg_ro pg_sts me_239 bk_239_26 = true := ex_lok_c (by decide +kernel) (ex_lok_c (by decide +kernel) (ex_lok_c (by decide +kernel) (ex_lok_c (by decide +kernel) (ex_lok_c (by decide +kernel) (ex_lok_c (by decide +kernel) (ex_lok_c (by decide +kernel) (ex_lok_c (by decide +kernel) (ex_lok_c (by decide +kernel) (ex_lok_c (by decide +kernel) (ex_lok_c (by decide +kernel) (ex_lok_c (by decide +kernel) (ex_lok_c (by decide +kernel) (ex_lok_c (by decide +kernel) (ex_lok_c (by decide +kernel) (ex_lok_c (by decide +kernel) (ex_lok_c (by decide +kernel) (ex_lok_c (by decide +kernel) (ex_lok_c (by decide +kernel) (ex_lok_c (by decide +kernel) (ex_lok_c (by decide +kernel) (ex_lok_c (by decide +kernel) (ex_lok_c (by decide +kernel) (rfl)))))))))))))))))))))))
theorem lk_25 : ex_lok pg_T pg_N pg_mt pg_mp pg_tsl pg_ro pg_sts me_239 bk_239_25 = true := ex_lok_c (by decide +kernel) (rfl)
theorem lk_24 : ex_lok pg_T pg_N pg_mt pg_mp pg_tsl pg_ro pg_sts me_239 bk_239_24 = true := ex_lok_c (by decide +kernel) (ex_lok_c (by decide +kernel) (ex_lok_c (by decide +kernel) (ex_lok_c (by decide +kernel) (ex_lok_c (by decide +kernel) (ex_lok_c (by decide +kernel) (ex_lok_c (by decide +kernel) (ex_lok_c (by decide +kernel) (ex_lok_c (by decide +kernel) (ex_lok_c (by decide +kernel) (ex_lok_c (by decide +kernel) (rfl)))))))))))
theorem lk_23 : ex_lok pg_T pg_N pg_mt pg_mp pg_tsl pg_ro pg_sts me_239 bk_239_23 = true := ex_lok_c (by decide +kernel) (ex_lok_c (by decide +kernel) (ex_lok_c (by decide +kernel) (ex_lok_c (by decide +kernel) (ex_lok_c (by decide +kernel) (ex_lok_c (by decide +kernel) (ex_lok_c (by decide +kernel) (ex_lok_c (by decide +kernel) (ex_lok_c (by decide +kernel) (ex_lok_c (by decide +kernel) (ex_lok_c (by decide +kernel) (ex_lok_c (by decide +kernel) (ex_lok_c (by decide +kernel) (ex_lok_c (by decide +kernel) (ex_lok_c (by decide +kernel) (ex_lok_c (by decide +kernel) (ex_lok_c (by decide +kernel) (ex_lok_c (by decide +kernel) (ex_lok_c (by decide +kernel) (ex_lok_c (by decide +kernel) (ex_lok_c (by decide +kernel) (ex_lok_c (by decide +kernel) (ex_lok_c (by decide +kernel) (ex_lok_c (by decide +kernel) (ex_lok_c (by decide +kernel) (ex_lok_c (by decide +kernel) (ex_lok_c (by decide +kernel) (ex_lok_c (by decide +kernel) (ex_lok_c (by decide +kernel) (ex_lok_c (by decide +kernel) (ex_lok_c (by decide +kernel) (ex_lok_c (by decide +kernel) (ex_lok_c (by decide +kernel) (rfl)))))))))))))))))))))))))))))))))
theorem lk_22 : ex_lok pg_T pg_N pg_mt pg_mp pg_tsl pg_ro pg_sts me_239 bk_239_22 = true := ex_lok_c (by decide +kernel) (ex_lok_c (by decide +kernel) (ex_lok_c (by decide +kernel) (ex_lok_c (by decide +kernel) (ex_lok_c (by decide +kernel) (ex_lok_c (by decide +kernel) (ex_lok_c (by decide +kernel) (rfl)))))))
theorem lk_21 : ex_lok pg_T pg_N pg_mt pg_mp pg_tsl pg_ro pg_sts me_239 bk_239_21 = true := ex_lok_c (by decide +kernel) (rfl)
theorem lk_20 : ex_lok pg_T pg_N pg_mt pg_mp pg_tsl pg_ro pg_sts me_239 bk_239_20 = true := ex_lok_c (by decide +kernel) (ex_lok_c (by decide +kernel) (ex_lok_c (by decide +kernel) (ex_lok_c (by decide +kernel) (ex_lok_c (by decide +kernel) (ex_lok_c (by decide +kernel) (ex_lok_c (by decide +kernel) (ex_lok_c (by decide +kernel) (ex_lok_c (by decide +kernel) (ex_lok_c (by decide +kernel) (ex_lok_c (by decide +kernel) (rfl)))))))))))
theorem lk_19 : ex_lok pg_T pg_N pg_mt pg_mp pg_tsl pg_ro pg_sts me_239 bk_239_19 = true := ex_lok_c (by decide +kernel) (ex_lok_c (by decide +kernel) (ex_lok_c (by decide +kernel) (ex_lok_c (by decide +kernel) (ex_lok_c (by decide +kernel) (ex_lok_c (by decide +kernel) (ex_lok_c (by decide +kernel) (ex_lok_c (by decide +kernel) (ex_lok_c (by decide +kernel) (ex_lok_c (by decide +kernel) (ex_lok_c (by decide +kernel) (ex_lok_c (by decide +kernel) (ex_lok_c (by decide +kernel) (ex_lok_c (by decide +kernel) (ex_lok_c (by decide +kernel) (ex_lok_c (by decide +kernel) (ex_lok_c (by decide +kernel) (ex_lok_c (by decide +kernel) (ex_lok_c (by decide +kernel) (ex_lok_c (by decide +kernel) (ex_lok_c (by decide +kernel) (ex_lok_c (by decide +kernel) (ex_lok_c (by decide +kernel) (rfl)))))))))))))))))))))))
theorem lk_18 : ex_lok pg_T pg_N pg_mt pg_mp pg_tsl pg_ro pg_sts me_239 bk_239_18 = true := ex_lok_c (by decide +kernel) (rfl)
theorem lk_17 : ex_lok pg_T pg_N pg_mt pg_mp pg_tsl pg_ro pg_sts me_239 bk_239_17 = true := ex_lok_c (by decide +kernel) (ex_lok_c (by decide +kernel) (ex_lok_c (by decide +kernel) (ex_lok_c (by decide +kernel) (ex_lok_c (by decide +kernel) (ex_lok_c (by decide +kernel) (ex_lok_c (by decide +kernel) (ex_lok_c (by decide +kernel) (ex_lok_c (by decide +kernel) (ex_lok_c (by decide +kernel) (ex_lok_c (by decide +kernel) (rfl)))))))))))
theorem lk_16 : ex_lok pg_T pg_N pg_mt pg_mp pg_tsl pg_ro pg_sts me_239 bk_239_16 = true := ex_lok_c (by decide +kernel) (ex_lok_c (by decide +kernel) (ex_lok_c (by decide +kernel) (ex_lok_c (by decide +kernel) (ex_lok_c (by decide +kernel) (ex_lok_c (by decide +kernel) (ex_lok_c (by decide +kernel) (ex_lok_c (by decide +kernel) (ex_lok_c (by decide +kernel) (ex_lok_c (by decide +kernel) (ex_lok_c (by decide +kernel) (ex_lok_c (by decide +kernel) (ex_lok_c (by decide +kernel) (ex_lok_c (by decide +kernel) (ex_lok_c (by decide +kernel) (ex_lok_c (by decide +kernel) (ex_lok_c (by decide +kernel) (ex_lok_c (by decide +kernel) (ex_lok_c (by decide +kernel) (ex_lok_c (by decide +kernel) (ex_lok_c (by decide +kernel) (ex_lok_c (by decide +kernel) (ex_lok_c (by decide +kernel) (ex_lok_c (by decide +kernel) (ex_lok_c (by decide +kernel) (ex_lok_c (by decide +kernel) (ex_lok_c (by decide +kernel) (ex_lok_c (by decide +kernel) (ex_lok_c (by decide +kernel) (ex_lok_c (by decide +kernel) (ex_lok_c (by decide +kernel) (ex_lok_c (by decide +kernel) (ex_lok_c (by decide +kernel) (rfl)))))))))))))))))))))))))))))))))
theorem lk_15 : ex_lok pg_T pg_N pg_mt pg_mp pg_tsl pg_ro pg_sts me_239 bk_239_15 = true := ex_lok_c (by decide +kernel) (rfl)
theorem lk_14 : ex_lok pg_T pg_N pg_mt pg_mp pg_tsl pg_ro pg_sts me_239 bk_239_14 = true := ex_lok_c (by decide +kernel) (ex_lok_c (by decide +kernel) (ex_lok_c (by decide +kernel) (ex_lok_c (by decide +kernel) (ex_lok_c (by decide +kernel) (ex_lok_c (by decide +kernel) (ex_lok_c (by decide +kernel) (ex_lok_c (by decide +kernel) (ex_lok_c (by decide +kernel) (ex_lok_c (by decide +kernel) (ex_lok_c (by decide +kernel) (rfl)))))))))))
theorem lk_13 : ex_lok pg_T pg_N pg_mt pg_mp pg_tsl pg_ro pg_sts me_239 bk_239_13 = true := ex_lok_c (by decide +kernel) (ex_lok_c (by decide +kernel) (ex_lok_c (by decide +kernel) (ex_lok_c (by decide +kernel) (ex_lok_c (by decide +kernel) (ex_lok_c (by decide +kernel) (ex_lok_c (by decide +kernel) (ex_lok_c (by decide +kernel) (ex_lok_c (by decide +kernel) (ex_lok_c (by decide +kernel) (ex_lok_c (by decide +kernel) (ex_lok_c (by decide +kernel) (ex_lok_c (by decide +kernel) (ex_lok_c (by decide +kernel) (ex_lok_c (by decide +kernel) (ex_lok_c (by decide +kernel) (ex_lok_c (by decide +kernel) (ex_lok_c (by decide +kernel) (ex_lok_c (by decide +kernel) (ex_lok_c (by decide +kernel) (ex_lok_c (by decide +kernel) (ex_lok_c (by decide +kernel) (ex_lok_c (by decide +kernel) (ex_lok_c (by decide +kernel) (ex_lok_c (by decide +kernel) (ex_lok_c (by decide +kernel) (ex_lok_c (by decide +kernel) (ex_lok_c (by decide +kernel) (ex_lok_c (by decide +kernel) (ex_lok_c (by decide +kernel) (ex_lok_c (by decide +kernel) (ex_lok_c (by decide +kernel) (ex_lok_c (by decide +kernel) (ex_lok_c (by decide +kernel) (ex_lok_c (by decide +kernel) (ex_lok_c (by decide +kernel) (ex_lok_c (by decide +kernel) (ex_lok_c (by decide +kernel) (ex_lok_c (by decide +kernel) (ex_lok_c (by decide +kernel) (ex_lok_c (by decide +kernel) (ex_lok_c (by decide +kernel) (ex_lok_c (by decide +kernel) (rfl)))))))))))))))))))))))))))))))))))))))))))
theorem lk_12 : ex_lok pg_T pg_N pg_mt pg_mp pg_tsl pg_ro pg_sts me_239 bk_239_12 = true := ex_lok_c (by decide +kernel) (rfl)
theorem lk_11 : ex_lok pg_T pg_N pg_mt pg_mp pg_tsl pg_ro pg_sts me_239 bk_239_11 = true := ex_lok_c (by decide +kernel) (ex_lok_c (by decide +kernel) (ex_lok_c (by decide +kernel) (ex_lok_c (by decide +kernel) (ex_lok_c (by decide +kernel) (ex_lok_c (by decide +kernel) (ex_lok_c (by decide +kernel) (ex_lok_c (by decide +kernel) (ex_lok_c (by decide +kernel) (ex_lok_c (by decide +kernel) (ex_lok_c (by decide +kernel) (rfl)))))))))))
theorem lk_10 : ex_lok pg_T pg_N pg_mt pg_mp pg_tsl pg_ro pg_sts me_239 bk_239_10 = true := ex_lok_c (by decide +kernel) (ex_lok_c (by decide +kernel) (ex_lok_c (by decide +kernel) (ex_lok_c (by decide +kernel) (ex_lok_c (by decide +kernel) (ex_lok_c (by decide +kernel) (ex_lok_c (by decide +kernel) (ex_lok_c (by decide +kernel) (ex_lok_c (by decide +kernel) (ex_lok_c (by decide +kernel) (ex_lok_c (by decide +kernel) (ex_lok_c (by decide +kernel) (ex_lok_c (by decide +kernel) (ex_lok_c (by decide +kernel) (ex_lok_c (by decide +kernel) (ex_lok_c (by decide +kernel) (ex_lok_c (by decide +kernel) (ex_lok_c (by decide +kernel) (ex_lok_c (by decide +kernel) (ex_lok_c (by decide +kernel) (ex_lok_c (by decide +kernel) (ex_lok_c (by decide +kernel) (ex_lok_c (by decide +kernel) (ex_lok_c (by decide +kernel) (ex_lok_c (by decide +kernel) (ex_lok_c (by decide +kernel) (ex_lok_c (by decide +kernel) (ex_lok_c (by decide +kernel) (ex_lok_c (by decide +kernel) (ex_lok_c (by decide +kernel) (ex_lok_c (by decide +kernel) (ex_lok_c (by decide +kernel) (ex_lok_c (by decide +kernel) (ex_lok_c (by decide +kernel) (ex_lok_c (by decide +kernel) (ex_lok_c (by decide +kernel) (ex_lok_c (by decide +kernel) (ex_lok_c (by decide +kernel) (ex_lok_c (by decide +kernel) (ex_lok_c (by decide +kernel) (ex_lok_c (by decide +kernel) (ex_lok_c (by decide +kernel) (ex_lok_c (by decide +kernel) (rfl)))))))))))))))))))))))))))))))))))))))))))
theorem lk_9 : ex_lok pg_T pg_N pg_mt pg_mp pg_tsl pg_ro pg_sts me_239 bk_239_9 = true := ex_lok_c (by decide +kernel) (rfl)
theorem lk_8 : ex_lok pg_T pg_N pg_mt pg_mp pg_tsl pg_ro pg_sts me_239 bk_239_8 = true := ex_lok_c (by decide +kernel) (ex_lok_c (by decide +kernel) (ex_lok_c (by decide +kernel) (ex_lok_c (by decide +kernel) (ex_lok_c (by decide +kernel) (ex_lok_c (by decide +kernel) (ex_lok_c (by decide +kernel) (ex_lok_c (by decide +kernel) (ex_lok_c (by decide +kernel) (ex_lok_c (by decide +kernel) (ex_lok_c (by decide +kernel) (rfl)))))))))))
theorem lk_7 : ex_lok pg_T pg_N pg_mt pg_mp pg_tsl pg_ro pg_sts me_239 bk_239_7 = true := ex_lok_c (by decide +kernel) (ex_lok_c (by decide +kernel) (ex_lok_c (by decide +kernel) (ex_lok_c (by decide +kernel) (ex_lok_c (by decide +kernel) (ex_lok_c (by decide +kernel) (ex_lok_c (by decide +kernel) (ex_lok_c (by decide +kernel) (ex_lok_c (by decide +kernel) (ex_lok_c (by decide +kernel) (ex_lok_c (by decide +kernel) (ex_lok_c (by decide +kernel) (ex_lok_c (by decide +kernel) (ex_lok_c (by decide +kernel) (ex_lok_c (by decide +kernel) (ex_lok_c (by decide +kernel) (ex_lok_c (by decide +kernel) (ex_lok_c (by decide +kernel) (ex_lok_c (by decide +kernel) (ex_lok_c (by decide +kernel) (ex_lok_c (by decide +kernel) (ex_lok_c (by decide +kernel) (ex_lok_c (by decide +kernel) (rfl)))))))))))))))))))))))
theorem lk_6 : ex_lok pg_T pg_N pg_mt pg_mp pg_tsl pg_ro pg_sts me_239 bk_239_6 = true := ex_lok_c (by decide +kernel) (ex_lok_c (by decide +kernel) (ex_lok_c (by decide +kernel) (ex_lok_c (by decide +kernel) (ex_lok_c (by decide +kernel) (ex_lok_c (by decide +kernel) (ex_lok_c (by decide +kernel) (rfl)))))))
theorem lk_5 : ex_lok pg_T pg_N pg_mt pg_mp pg_tsl pg_ro pg_sts me_239 bk_239_5 = true := ex_lok_c (by decide +kernel) (rfl)
theorem lk_4 : ex_lok pg_T pg_N pg_mt pg_mp pg_tsl pg_ro pg_sts me_239 bk_239_4 = true := ex_lok_c (by decide +kernel) (ex_lok_c (by decide +kernel) (ex_lok_c (by decide +kernel) (ex_lok_c (by decide +kernel) (ex_lok_c (by decide +kernel) (ex_lok_c (by decide +kernel) (ex_lok_c (by decide +kernel) (ex_lok_c (by decide +kernel) (ex_lok_c (by decide +kernel) (ex_lok_c (by decide +kernel) (ex_lok_c (by decide +kernel) (rfl)))))))))))
theorem lk_3 : ex_lok pg_T pg_N pg_mt pg_mp pg_tsl pg_ro pg_sts me_239 bk_239_3 = true := ex_lok_c (by decide +kernel) (ex_lok_c (by decide +kernel) (ex_lok_c (by decide +kernel) (ex_lok_c (by decide +kernel) (ex_lok_c (by decide +kernel) (ex_lok_c (by decide +kernel) (ex_lok_c (by decide +kernel) (ex_lok_c (by decide +kernel) (ex_lok_c (by decide +kernel) (ex_lok_c (by decide +kernel) (ex_lok_c (by decide +kernel) (ex_lok_c (by decide +kernel) (ex_lok_c (by decide +kernel) (ex_lok_c (by decide +kernel) (ex_lok_c (by decide +kernel) (ex_lok_c (by decide +kernel) (ex_lok_c (by decide +kernel) (ex_lok_c (by decide +kernel) (ex_lok_c (by decide +kernel) (ex_lok_c (by decide +kernel) (ex_lok_c (by decide +kernel) (ex_lok_c (by decide +kernel) (ex_lok_c (by decide +kernel) (rfl)))))))))))))))))))))))
theorem lk_2 : ex_lok pg_T pg_N pg_mt pg_mp pg_tsl pg_ro pg_sts me_239 bk_239_2 = true := ex_lok_c (by decide +kernel) (ex_lok_c (by decide +kernel) (ex_lok_c (by decide +kernel) (ex_lok_c (by decide +kernel) (ex_lok_c (by decide +kernel) (ex_lok_c (by decide +kernel) (ex_lok_c (by decide +kernel) (ex_lok_c (by decide +kernel) (ex_lok_c (by decide +kernel) (ex_lok_c (by decide +kernel) (ex_lok_c (by decide +kernel) (ex_lok_c (by decide +kernel) (ex_lok_c (by decide +kernel) (ex_lok_c (by decide +kernel) (ex_lok_c (by decide +kernel) (ex_lok_c (by decide +kernel) (ex_lok_c (by decide +kernel) (ex_lok_c (by decide +kernel) (ex_lok_c (by decide +kernel) (ex_lok_c (by decide +kernel) (ex_lok_c (by decide +kernel) (ex_lok_c (by decide +kernel) (ex_lok_c (by decide +kernel) (ex_lok_c (by decide +kernel) (ex_lok_c (by decide +kernel) (ex_lok_c (by decide +kernel) (ex_lok_c (by decide +kernel) (ex_lok_c (by decide +kernel) (ex_lok_c (by decide +kernel) (ex_lok_c (by decide +kernel) (ex_lok_c (by decide +kernel) (ex_lok_c (by decide +kernel) (ex_lok_c (by decide +kernel) (ex_lok_c (by decide +kernel) (ex_lok_c (by decide +kernel) (ex_lok_c (by decide +kernel) (ex_lok_c (by decide +kernel) (ex_lok_c (by decide +kernel) (ex_lok_c (by decide +kernel) (ex_lok_c (by decide +kernel) (ex_lok_c (by decide +kernel) (ex_lok_c (by decide +kernel) (ex_lok_c (by decide +kernel) (ex_lok_c (by decide +kernel) (ex_lok_c (by decide +kernel) (ex_lok_c (by decide +kernel) (ex_lok_c (by decide +kernel) (ex_lok_c (by decide +kernel) (ex_lok_c (by decide +kernel) (ex_lok_c (by decide +kernel) (ex_lok_c (by decide +kernel) (ex_lok_c (by decide +kernel) (ex_lok_c (by decide +kernel) (ex_lok_c (by decide +kernel) (ex_lok_c (by decide +kernel) (ex_lok_c (by decide +kernel) (ex_lok_c (by decide +kernel) (rfl)))))))))))))))))))))))))))))))))))))))))))))))))))))))))
theorem lk_1 : ex_lok pg_T pg_N pg_mt pg_mp pg_tsl pg_ro pg_sts me_239 bk_239_1 = true := ex_lok_c (by decide +kernel) (ex_lok_c (by decide +kernel) (ex_lok_c (by decide +kernel) (ex_lok_c (by decide +kernel) (ex_lok_c (by decide +kernel) (ex_lok_c (by decide +kernel) (ex_lok_c (by decide +kernel) (ex_lok_c (by decide +kernel) (ex_lok_c (by decide +kernel) (ex_lok_c (by decide +kernel) (ex_lok_c (by decide +kernel) (ex_lok_c (by decide +kernel) (rfl))))))))))))
theorem lk_0 : ex_lok pg_T pg_N pg_mt pg_mp pg_tsl pg_ro pg_sts me_239 bk_239_0 = true := ex_lok_c (by decide +kernel) (ex_lok_c (by decide +kernel) (ex_lok_c (by decide +kernel) (ex_lok_c (by decide +kernel) (ex_lok_c (by decide +kernel) (ex_lok_c (by decide +kernel) (ex_lok_c (by decide +kernel) (ex_lok_c (by decide +kernel) (ex_lok_c (by decide +kernel) (ex_lok_c (by decide +kernel) (ex_lok_c (by decide +kernel) (ex_lok_c (by decide +kernel) (ex_lok_c (by decide +kernel) (lk_1)))))))))))))
theorem lk_a : me_239.2.2.2.2.2.1.all (ex_lok pg_T pg_N pg_mt pg_mp pg_tsl pg_ro pg_sts me_239) = true := by
  refine List.all_eq_true.mpr fun L hL => ?_
  simp only [me_239, List.mem_cons, List.not_mem_nil, or_false] at hL
  rcases hL with rfl | rfl | rfl | rfl | rfl | rfl | rfl | rfl | rfl | rfl | rfl | rfl | rfl | rfl | rfl | rfl | rfl | rfl | rfl | rfl | rfl | rfl | rfl | rfl | rfl | rfl | rfl | rfl | rfl | rfl | rfl | rfl | rfl | rfl | rfl | rfl | rfl | rfl | rfl | rfl | rfl | rfl | rfl | rfl | rfl | rfl | rfl | rfl | rfl | rfl | rfl | rfl | rfl | rfl | rfl | rfl | rfl | rfl | rfl | rfl | rfl | rfl | rfl | rfl | rfl | rfl | rfl | rfl
  · exact lk_0
  · exact lk_1
  · exact lk_2
  · exact lk_3
  · exact lk_4
  · exact lk_5
  · exact lk_6
  · exact lk_7
  · exact lk_8
  · exact lk_9
  · exact lk_10
  · exact lk_11
  · exact lk_12
  · exact lk_13
  · exact lk_14
  · exact lk_15
  · exact lk_16
  · exact lk_17
  · exact lk_18
  · exact lk_19
  · exact lk_20
  · exact lk_21
  · exact lk_22
  · exact lk_23
  · exact lk_24
  · exact lk_25
  · exact lk_26
  · exact lk_27
  · exact lk_28
  · exact lk_29
  · exact lk_30
  · exact lk_31
  · exact lk_32
  · exact lk_33
  · exact lk_34
  · exact lk_35
  · exact lk_36
  · exact lk_37
  · exact lk_38
  · exact lk_39
  · exact lk_40
  · exact lk_41
  · exact lk_42
  · exact lk_43
  · exact lk_44
  · exact lk_45
  · exact lk_46
  · exact lk_47
  · exact lk_48
  · exact lk_49
  · exact lk_50
  · exact lk_51
  · exact lk_52
  · exact lk_53
  · exact lk_54
  · exact lk_55
  · exact lk_56
  · exact lk_57
  · exact lk_58
  · exact lk_59
  · exact lk_60
  · exact lk_61
  · exact lk_62
  · exact lk_63
  · exact lk_64
  · exact lk_65
  · exact lk_66
  · exact lk_67
theorem ok_239 : ex_mok pg_T pg_N pg_mt pg_mp pg_tsl pg_ro pg_sts 239 me_239 = true := by
  rw [ex_mok, lk_a, Bool.and_true]; decide +kernel
theorem pg_ok : ∀ (a b : Nat) (M : ex_M), (pg_tab.getD a [])[b]? = some M → ex_mok pg_T pg_N pg_mt pg_mp pg_tsl pg_ro pg_sts (16 * a + b) M = true
  | 0, 0, M, h => by cases h; exact ok_0
  | 0, 1, M, h => by cases h; exact ok_1
  | 0, 2, M, h => by cases h; exact ok_2
  | 0, 3, M, h => by cases h; exact ok_3
  | 0, 4, M, h => by cases h; exact ok_4
  | 0, 5, M, h => by cases h; exact ok_5
  | 0, 6, M, h => by cases h; exact ok_6
  | 0, 7, M, h => by cases h; exact ok_7
  | 0, 8, M, h => by cases h; exact ok_8
  | 0, 9, M, h => by cases h; exact ok_9
  | 0, 10, M, h => by cases h; exact ok_10
  | 0, 11, M, h => by cases h; exact ok_11
  | 0, 12, M, h => by cases h; exact ok_12
  | 0, 13, M, h => by cases h; exact ok_13
  | 0, 14, M, h => by cases h; exact ok_14
  | 0, 15, M, h => by cases h; exact ok_15
  | 0, b + 16, M, h => by exact absurd h (by simp [pg_tab])
  | 1, 0, M, h => by cases h; exact ok_16
  | 1, 1, M, h => by cases h; exact ok_17
  | 1, 2, M, h => by cases h; exact ok_18
  | 1, 3, M, h => by cases h; exact ok_19
  | 1, 4, M, h => by cases h; exact ok_20
  | 1, 5, M, h => by cases h; exact ok_21
  | 1, 6, M, h => by cases h; exact ok_22
  | 1, 7, M, h => by cases h; exact ok_23
  | 1, 8, M, h => by cases h; exact ok_24
  | 1, 9, M, h => by cases h; exact ok_25
  | 1, 10, M, h => by cases h; exact ok_26
  | 1, 11, M, h => by cases h; exact ok_27
  | 1, 12, M, h => by cases h; exact ok_28
  | 1, 13, M, h => by cases h; exact ok_29
  | 1, 14, M, h => by cases h; exact ok_30
  | 1, 15, M, h => by cases h; exact ok_31
  | 1, b + 16, M, h => by exact absurd h (by simp [pg_tab])
  | 2, 0, M, h => by cases h; exact ok_32
  | 2, 1, M, h => by cases h; exact ok_33
  | 2, 2, M, h => by cases h; exact ok_34
  | 2, 3, M, h => by cases h; exact ok_35
  | 2, 4, M, h => by cases h; exact ok_36
  | 2, 5, M, h => by cases h; exact ok_37
  | 2, 6, M, h => by cases h; exact ok_38
  | 2, 7, M, h => by cases h; exact ok_39
  | 2, 8, M, h => by cases h; exact ok_40
  | 2, 9, M, h => by cases h; exact ok_41
  | 2, 10, M, h => by cases h; exact ok_42
  | 2, 11, M, h => by cases h; exact ok_43
  | 2, 12, M, h => by cases h; exact ok_44
  | 2, 13, M, h => by cases h; exact ok_45
  | 2, 14, M, h => by cases h; exact ok_46
  | 2, 15, M, h => by cases h; exact ok_47
  | 2, b + 16, M, h => by exact absurd h (by simp [pg_tab])
  | 3, 0, M, h => by cases h; exact ok_48
  | 3, 1, M, h => by cases h; exact ok_49
  | 3, 2, M, h => by cases h; exact ok_50
  | 3, 3, M, h => by cases h; exact ok_51
  | 3, 4, M, h => by cases h; exact ok_52
  | 3, 5, M, h => by cases h; exact ok_53
  | 3, 6, M, h => by cases h; exact ok_54
  | 3, 7, M, h => by cases h; exact ok_55
  | 3, 8, M, h => by cases h; exact ok_56
  | 3, 9, M, h => by cases h; exact ok_57
  | 3, 10, M, h => by cases h; exact ok_58
  | 3, 11, M, h => by cases h; exact ok_59
  | 3, 12, M, h => by cases h; exact ok_60
  | 3, 13, M, h => by cases h; exact ok_61
  | 3, 14, M, h => by cases h; exact ok_62
  | 3, 15, M, h => by cases h; exact ok_63
  | 3, b + 16, M, h => by exact absurd h (by simp [pg_tab])
  | 4, 0, M, h => by cases h; exact ok_64
  | 4, 1, M, h => by cases h; exact ok_65
  | 4, 2, M, h => by cases h; exact ok_66
  | 4, 3, M, h => by cases h; exact ok_67
  | 4, 4, M, h => by cases h; exact ok_68
  | 4, 5, M, h => by cases h; exact ok_69
  | 4, 6, M, h => by cases h; exact ok_70
  | 4, 7, M, h => by cases h; exact ok_71
  | 4, 8, M, h => by cases h; exact ok_72
  | 4, 9, M, h => by cases h; exact ok_73
  | 4, 10, M, h => by cases h; exact ok_74
  | 4, 11, M, h => by cases h; exact ok_75
  | 4, 12, M, h => by cases h; exact ok_76
  | 4, 13, M, h => by cases h; exact ok_77
  | 4, 14, M, h => by cases h; exact ok_78
  | 4, 15, M, h => by cases h; exact ok_79
  | 4, b + 16, M, h => by exact absurd h (by simp [pg_tab])
  | 5, 0, M, h => by cases h; exact ok_80
  | 5, 1, M, h => by cases h; exact ok_81
  | 5, 2, M, h => by cases h; exact ok_82
  | 5, 3, M, h => by cases h; exact ok_83
  | 5, 4, M, h => by cases h; exact ok_84
  | 5, 5, M, h => by cases h; exact ok_85
  | 5, 6, M, h => by cases h; exact ok_86
  | 5, 7, M, h => by cases h; exact ok_87
  | 5, 8, M, h => by cases h; exact ok_88
  | 5, 9, M, h => by cases h; exact ok_89
  | 5, 10, M, h => by cases h; exact ok_90
  | 5, 11, M, h => by cases h; exact ok_91
  | 5, 12, M, h => by cases h; exact ok_92
  | 5, 13, M, h => by cases h; exact ok_93
  | 5, 14, M, h => by cases h; exact ok_94
  | 5, 15, M, h => by cases h; exact ok_95
  | 5, b + 16, M, h => by exact absurd h (by simp [pg_tab])
  | 6, 0, M, h => by cases h; exact ok_96
  | 6, 1, M, h => by cases h; exact ok_97
  | 6, 2, M, h => by cases h; exact ok_98
  | 6, 3, M, h => by cases h; exact ok_99
  | 6, 4, M, h => by cases h; exact ok_100
  | 6, 5, M, h => by cases h; exact ok_101
  | 6, 6, M, h => by cases h; exact ok_102
  | 6, 7, M, h => by cases h; exact ok_103
  | 6, 8, M, h => by cases h; exact ok_104
  | 6, 9, M, h => by cases h; exact ok_105
  | 6, 10, M, h => by cases h; exact ok_106
  | 6, 11, M, h => by cases h; exact ok_107
  | 6, 12, M, h => by cases h; exact ok_108
  | 6, 13, M, h => by cases h; exact ok_109
  | 6, 14, M, h => by cases h; exact ok_110
  | 6, 15, M, h => by cases h; exact ok_111
  | 6, b + 16, M, h => by exact absurd h (by simp [pg_tab])
  | 7, 0, M, h => by cases h; exact ok_112
  | 7, 1, M, h => by cases h; exact ok_113
  | 7, 2, M, h => by cases h; exact ok_114
  | 7, 3, M, h => by cases h; exact ok_115
  | 7, 4, M, h => by cases h; exact ok_116
  | 7, 5, M, h => by cases h; exact ok_117
  | 7, 6, M, h => by cases h; exact ok_118
  | 7, 7, M, h => by cases h; exact ok_119
  | 7, 8, M, h => by cases h; exact ok_120
  | 7, 9, M, h => by cases h; exact ok_121
  | 7, 10, M, h => by cases h; exact ok_122
  | 7, 11, M, h => by cases h; exact ok_123
  | 7, 12, M, h => by cases h; exact ok_124
  | 7, 13, M, h => by cases h; exact ok_125
  | 7, 14, M, h => by cases h; exact ok_126
  | 7, 15, M, h => by cases h; exact ok_127
  | 7, b + 16, M, h => by exact absurd h (by simp [pg_tab])
  | 8, 0, M, h => by cases h; exact ok_128
  | 8, 1, M, h => by cases h; exact ok_129
  | 8, 2, M, h => by cases h; exact ok_130
  | 8, 3, M, h => by cases h; exact ok_131
  | 8, 4, M, h => by cases h; exact ok_132
  | 8, 5, M, h => by cases h; exact ok_133
  | 8, 6, M, h => by cases h; exact ok_134
  | 8, 7, M, h => by cases h; exact ok_135
  | 8, 8, M, h => by cases h; exact ok_136
  | 8, 9, M, h => by cases h; exact ok_137
  | 8, 10, M, h => by cases h; exact ok_138
  | 8, 11, M, h => by cases h; exact ok_139
  | 8, 12, M, h => by cases h; exact ok_140
  | 8, 13, M, h => by cases h; exact ok_141
  | 8, 14, M, h => by cases h; exact ok_142
  | 8, 15, M, h => by cases h; exact ok_143
  | 8, b + 16, M, h => by exact absurd h (by simp [pg_tab])
  | 9, 0, M, h => by cases h; exact ok_144
  | 9, 1, M, h => by cases h; exact ok_145
  | 9, 2, M, h => by cases h; exact ok_146
  | 9, 3, M, h => by cases h; exact ok_147
  | 9, 4, M, h => by cases h; exact ok_148
  | 9, 5, M, h => by cases h; exact ok_149
  | 9, 6, M, h => by cases h; exact ok_150
  | 9, 7, M, h => by cases h; exact ok_151
  | 9, 8, M, h => by cases h; exact ok_152
  | 9, 9, M, h => by cases h; exact ok_153
  | 9, 10, M, h => by cases h; exact ok_154
  | 9, 11, M, h => by cases h; exact ok_155
  | 9, 12, M, h => by cases h; exact ok_156
  | 9, 13, M, h => by cases h; exact ok_157
  | 9, 14, M, h => by cases h; exact ok_158
  | 9, 15, M, h => by cases h; exact ok_159
  | 9, b + 16, M, h => by exact absurd h (by simp [pg_tab])
  | 10, 0, M, h => by cases h; exact ok_160
  | 10, 1, M, h => by cases h; exact ok_161
  | 10, 2, M, h => by cases h; exact ok_162
  | 10, 3, M, h => by cases h; exact ok_163
  | 10, 4, M, h => by cases h; exact ok_164
  | 10, 5, M, h => by cases h; exact ok_165
  | 10, 6, M, h => by cases h; exact ok_166
  | 10, 7, M, h => by cases h; exact ok_167
  | 10, 8, M, h => by cases h; exact ok_168
  | 10, 9, M, h => by cases h; exact ok_169
  | 10, 10, M, h => by cases h; exact ok_170
  | 10, 11, M, h => by cases h; exact ok_171
  | 10, 12, M, h => by cases h; exact ok_172
  | 10, 13, M, h => by cases h; exact ok_173
  | 10, 14, M, h => by cases h; exact ok_174
  | 10, 15, M, h => by cases h; exact ok_175
  | 10, b + 16, M, h => by exact absurd h (by simp [pg_tab])
  | 11, 0, M, h => by cases h; exact ok_176
  | 11, 1, M, h => by cases h; exact ok_177
  | 11, 2, M, h => by cases h; exact ok_178
  | 11, 3, M, h => by cases h; exact ok_179
  | 11, 4, M, h => by cases h; exact ok_180
  | 11, 5, M, h => by cases h; exact ok_181
  | 11, 6, M, h => by cases h; exact ok_182
  | 11, 7, M, h => by cases h; exact ok_183
  | 11, 8, M, h => by cases h; exact ok_184
  | 11, 9, M, h => by cases h; exact ok_185
  | 11, 10, M, h => by cases h; exact ok_186
  | 11, 11, M, h => by cases h; exact ok_187
  | 11, 12, M, h => by cases h; exact ok_188
  | 11, 13, M, h => by cases h; exact ok_189
  | 11, 14, M, h => by cases h; exact ok_190
  | 11, 15, M, h => by cases h; exact ok_191
  | 11, b + 16, M, h => by exact absurd h (by simp [pg_tab])
  | 12, 0, M, h => by cases h; exact ok_192
  | 12, 1, M, h => by cases h; exact ok_193
  | 12, 2, M, h => by cases h; exact ok_194
  | 12, 3, M, h => by cases h; exact ok_195
  | 12, 4, M, h => by cases h; exact ok_196
  | 12, 5, M, h => by cases h; exact ok_197
  | 12, 6, M, h => by cases h; exact ok_198
  | 12, 7, M, h => by cases h; exact ok_199
  | 12, 8, M, h => by cases h; exact ok_200
  | 12, 9, M, h => by cases h; exact ok_201
  | 12, 10, M, h => by cases h; exact ok_202
  | 12, 11, M, h => by cases h; exact ok_203
  | 12, 12, M, h => by cases h; exact ok_204
  | 12, 13, M, h => by cases h; exact ok_205
  | 12, 14, M, h => by cases h; exact ok_206
  | 12, 15, M, h => by cases h; exact ok_207
  | 12, b + 16, M, h => by exact absurd h (by simp [pg_tab])
  | 13, 0, M, h => by cases h; exact ok_208
  | 13, 1, M, h => by cases h; exact ok_209
  | 13, 2, M, h => by cases h; exact ok_210
  | 13, 3, M, h => by cases h; exact ok_211
  | 13, 4, M, h => by cases h; exact ok_212
  | 13, 5, M, h => by cases h; exact ok_213
  | 13, 6, M, h => by cases h; exact ok_214
  | 13, 7, M, h => by cases h; exact ok_215
  | 13, 8, M, h => by cases h; exact ok_216
  | 13, 9, M, h => by cases h; exact ok_217
  | 13, 10, M, h => by cases h; exact ok_218
  | 13, 11, M, h => by cases h; exact ok_219
  | 13, 12, M, h => by cases h; exact ok_220
  | 13, 13, M, h => by cases h; exact ok_221
  | 13, 14, M, h => by cases h; exact ok_222
  | 13, 15, M, h => by cases h; exact ok_223
  | 13, b + 16, M, h => by exact absurd h (by simp [pg_tab])
  | 14, 0, M, h => by cases h; exact ok_224
  | 14, 1, M, h => by cases h; exact ok_225
  | 14, 2, M, h => by cases h; exact ok_226
  | 14, 3, M, h => by cases h; exact ok_227
  | 14, 4, M, h => by cases h; exact ok_228
  | 14, 5, M, h => by cases h; exact ok_229
  | 14, 6, M, h => by cases h; exact ok_230
  | 14, 7, M, h => by cases h; exact ok_231
  | 14, 8, M, h => by cases h; exact ok_232
  | 14, 9, M, h => by cases h; exact ok_233
  | 14, 10, M, h => by cases h; exact ok_234
  | 14, 11, M, h => by cases h; exact ok_235
  | 14, 12, M, h => by cases h; exact ok_236
  | 14, 13, M, h => by cases h; exact ok_237
  | 14, 14, M, h => by cases h; exact ok_238
  | 14, 15, M, h => by cases h; exact ok_239
  | 14, b + 16, M, h => by exact absurd h (by simp [pg_tab])
  | a + 15, b, M, h => by exact absurd h (by simp [pg_tab])
theorem pg_cw : ∀ (a b : Nat) (M : ex_M), (pg_tab.getD a [])[b]? = some M → (pg_mp (16 * a + b)).getD 2 0 ≠ 3 → ex_cw M ∈ pg_C
  | 0, 0, M, h, _ => by cases h; exact List.mem_of_getElem? (i := 1) rfl
  | 0, 1, M, h, _ => by cases h; exact List.mem_of_getElem? (i := 2) rfl
  | 0, 2, M, h, _ => by cases h; exact List.mem_of_getElem? (i := 3) rfl
  | 0, 3, M, h, _ => by cases h; exact List.mem_of_getElem? (i := 4) rfl
  | 0, 4, M, h, _ => by cases h; exact List.mem_of_getElem? (i := 5) rfl
  | 0, 5, M, h, _ => by cases h; exact List.mem_of_getElem? (i := 6) rfl
  | 0, 6, M, h, _ => by cases h; exact List.mem_of_getElem? (i := 7) rfl
  | 0, 7, M, h, _ => by cases h; exact List.mem_of_getElem? (i := 8) rfl
  | 0, 8, M, h, _ => by cases h; exact List.mem_of_getElem? (i := 9) rfl
  | 0, 9, M, h, _ => by cases h; exact List.mem_of_getElem? (i := 10) rfl
  | 0, 10, M, h, _ => by cases h; exact List.mem_of_getElem? (i := 11) rfl
  | 0, 11, M, h, _ => by cases h; exact List.mem_of_getElem? (i := 12) rfl
  | 0, 12, M, h, _ => by cases h; exact List.mem_of_getElem? (i := 13) rfl
  | 0, 13, M, h, _ => by cases h; exact List.mem_of_getElem? (i := 14) rfl
  | 0, 14, M, h, _ => by cases h; exact List.mem_of_getElem? (i := 15) rfl
  | 0, 15, M, h, _ => by cases h; exact List.mem_of_getElem? (i := 16) rfl
  | 0, b + 16, M, h, _ => by exact absurd h (by simp [pg_tab])
  | 1, 0, M, h, _ => by cases h; exact List.mem_of_getElem? (i := 17) rfl
  | 1, 1, M, h, _ => by cases h; exact List.mem_of_getElem? (i := 18) rfl
  | 1, 2, M, h, _ => by cases h; exact List.mem_of_getElem? (i := 19) rfl
  | 1, 3, M, h, _ => by cases h; exact List.mem_of_getElem? (i := 20) rfl
  | 1, 4, M, h, _ => by cases h; exact List.mem_of_getElem? (i := 21) rfl
  | 1, 5, M, h, _ => by cases h; exact List.mem_of_getElem? (i := 22) rfl
  | 1, 6, M, h, _ => by cases h; exact List.mem_of_getElem? (i := 23) rfl
  | 1, 7, M, h, _ => by cases h; exact List.mem_of_getElem? (i := 24) rfl
  | 1, 8, M, h, _ => by cases h; exact List.mem_of_getElem? (i := 25) rfl
  | 1, 9, M, h, _ => by cases h; exact List.mem_of_getElem? (i := 26) rfl
  | 1, 10, M, h, _ => by cases h; exact List.mem_of_getElem? (i := 27) rfl
  | 1, 11, M, h, _ => by cases h; exact List.mem_of_getElem? (i := 28) rfl
  | 1, 12, M, h, _ => by cases h; exact List.mem_of_getElem? (i := 29) rfl
  | 1, 13, M, h, _ => by cases h; exact List.mem_of_getElem? (i := 30) rfl
  | 1, 14, M, h, _ => by cases h; exact List.mem_of_getElem? (i := 31) rfl
  | 1, 15, M, h, _ => by cases h; exact List.mem_of_getElem? (i := 32) rfl
  | 1, b + 16, M, h, _ => by exact absurd h (by simp [pg_tab])
  | 2, 0, M, h, _ => by cases h; exact List.mem_of_getElem? (i := 33) rfl
  | 2, 1, M, h, _ => by cases h; exact List.mem_of_getElem? (i := 34) rfl
  | 2, 2, M, h, _ => by cases h; exact List.mem_of_getElem? (i := 35) rfl
  | 2, 3, M, h, _ => by cases h; exact List.mem_of_getElem? (i := 36) rfl
  | 2, 4, M, h, _ => by cases h; exact List.mem_of_getElem? (i := 37) rfl
  | 2, 5, M, h, _ => by cases h; exact List.mem_of_getElem? (i := 38) rfl
  | 2, 6, M, h, _ => by cases h; exact List.mem_of_getElem? (i := 39) rfl
  | 2, 7, M, h, _ => by cases h; exact List.mem_of_getElem? (i := 40) rfl
  | 2, 8, M, h, _ => by cases h; exact List.mem_of_getElem? (i := 41) rfl
  | 2, 9, M, h, _ => by cases h; exact List.mem_of_getElem? (i := 42) rfl
  | 2, 10, M, h, _ => by cases h; exact List.mem_of_getElem? (i := 43) rfl
  | 2, 11, M, h, _ => by cases h; exact List.mem_of_getElem? (i := 44) rfl
  | 2, 12, M, h, _ => by cases h; exact List.mem_of_getElem? (i := 45) rfl
  | 2, 13, M, h, _ => by cases h; exact List.mem_of_getElem? (i := 46) rfl
  | 2, 14, M, h, _ => by cases h; exact List.mem_of_getElem? (i := 47) rfl
  | 2, 15, M, h, _ => by cases h; exact List.mem_of_getElem? (i := 48) rfl
  | 2, b + 16, M, h, _ => by exact absurd h (by simp [pg_tab])
  | 3, 0, M, h, _ => by cases h; exact List.mem_of_getElem? (i := 49) rfl
  | 3, 1, M, h, _ => by cases h; exact List.mem_of_getElem? (i := 50) rfl
  | 3, 2, M, h, _ => by cases h; exact List.mem_of_getElem? (i := 51) rfl
  | 3, 3, M, h, _ => by cases h; exact List.mem_of_getElem? (i := 52) rfl
  | 3, 4, M, h, _ => by cases h; exact List.mem_of_getElem? (i := 53) rfl
  | 3, 5, M, h, _ => by cases h; exact List.mem_of_getElem? (i := 54) rfl
  | 3, 6, M, h, _ => by cases h; exact List.mem_of_getElem? (i := 55) rfl
  | 3, 7, M, h, _ => by cases h; exact List.mem_of_getElem? (i := 56) rfl
  | 3, 8, M, h, _ => by cases h; exact List.mem_of_getElem? (i := 57) rfl
  | 3, 9, M, h, _ => by cases h; exact List.mem_of_getElem? (i := 58) rfl
  | 3, 10, M, h, _ => by cases h; exact List.mem_of_getElem? (i := 59) rfl
  | 3, 11, M, h, _ => by cases h; exact List.mem_of_getElem? (i := 60) rfl
  | 3, 12, M, h, _ => by cases h; exact List.mem_of_getElem? (i := 61) rfl
  | 3, 13, M, h, _ => by cases h; exact List.mem_of_getElem? (i := 62) rfl
  | 3, 14, M, h, _ => by cases h; exact List.mem_of_getElem? (i := 63) rfl
  | 3, 15, M, h, _ => by cases h; exact List.mem_of_getElem? (i := 64) rfl
  | 3, b + 16, M, h, _ => by exact absurd h (by simp [pg_tab])
  | 4, 0, M, h, _ => by cases h; exact List.mem_of_getElem? (i := 65) rfl
  | 4, 1, M, h, _ => by cases h; exact List.mem_of_getElem? (i := 66) rfl
  | 4, 2, M, h, _ => by cases h; exact List.mem_of_getElem? (i := 67) rfl
  | 4, 3, M, h, _ => by cases h; exact List.mem_of_getElem? (i := 68) rfl
  | 4, 4, M, h, _ => by cases h; exact List.mem_of_getElem? (i := 69) rfl
  | 4, 5, M, h, _ => by cases h; exact List.mem_of_getElem? (i := 70) rfl
  | 4, 6, M, h, _ => by cases h; exact List.mem_of_getElem? (i := 71) rfl
  | 4, 7, M, h, _ => by cases h; exact List.mem_of_getElem? (i := 72) rfl
  | 4, 8, M, h, _ => by cases h; exact List.mem_of_getElem? (i := 73) rfl
  | 4, 9, M, h, _ => by cases h; exact List.mem_of_getElem? (i := 74) rfl
  | 4, 10, M, h, _ => by cases h; exact List.mem_of_getElem? (i := 75) rfl
  | 4, 11, M, h, _ => by cases h; exact List.mem_of_getElem? (i := 76) rfl
  | 4, 12, M, h, _ => by cases h; exact List.mem_of_getElem? (i := 77) rfl
  | 4, 13, M, h, _ => by cases h; exact List.mem_of_getElem? (i := 78) rfl
  | 4, 14, M, h, _ => by cases h; exact List.mem_of_getElem? (i := 79) rfl
  | 4, 15, M, h, _ => by cases h; exact List.mem_of_getElem? (i := 80) rfl
  | 4, b + 16, M, h, _ => by exact absurd h (by simp [pg_tab])
  | 5, 0, M, h, _ => by cases h; exact List.mem_of_getElem? (i := 81) rfl
  | 5, 1, M, h, _ => by cases h; exact List.mem_of_getElem? (i := 82) rfl
  | 5, 2, M, h, _ => by cases h; exact List.mem_of_getElem? (i := 83) rfl
  | 5, 3, M, h, _ => by cases h; exact List.mem_of_getElem? (i := 84) rfl
  | 5, 4, M, h, _ => by cases h; exact List.mem_of_getElem? (i := 85) rfl
  | 5, 5, M, h, _ => by cases h; exact List.mem_of_getElem? (i := 86) rfl
  | 5, 6, M, h, _ => by cases h; exact List.mem_of_getElem? (i := 87) rfl
  | 5, 7, M, h, _ => by cases h; exact List.mem_of_getElem? (i := 88) rfl
  | 5, 8, M, h, _ => by cases h; exact List.mem_of_getElem? (i := 89) rfl
  | 5, 9, M, h, _ => by cases h; exact List.mem_of_getElem? (i := 90) rfl
  | 5, 10, M, h, _ => by cases h; exact List.mem_of_getElem? (i := 91) rfl
  | 5, 11, M, h, _ => by cases h; exact List.mem_of_getElem? (i := 92) rfl
  | 5, 12, M, h, _ => by cases h; exact List.mem_of_getElem? (i := 93) rfl
  | 5, 13, M, h, _ => by cases h; exact List.mem_of_getElem? (i := 94) rfl
  | 5, 14, M, h, _ => by cases h; exact List.mem_of_getElem? (i := 95) rfl
  | 5, 15, M, h, _ => by cases h; exact List.mem_of_getElem? (i := 96) rfl
  | 5, b + 16, M, h, _ => by exact absurd h (by simp [pg_tab])
  | 6, 0, M, h, _ => by cases h; exact List.mem_of_getElem? (i := 97) rfl
  | 6, 1, M, h, _ => by cases h; exact List.mem_of_getElem? (i := 98) rfl
  | 6, 2, M, h, _ => by cases h; exact List.mem_of_getElem? (i := 99) rfl
  | 6, 3, M, h, _ => by cases h; exact List.mem_of_getElem? (i := 100) rfl
  | 6, 4, M, h, _ => by cases h; exact List.mem_of_getElem? (i := 101) rfl
  | 6, 5, M, h, _ => by cases h; exact List.mem_of_getElem? (i := 102) rfl
  | 6, 6, M, h, _ => by cases h; exact List.mem_of_getElem? (i := 103) rfl
  | 6, 7, M, h, _ => by cases h; exact List.mem_of_getElem? (i := 104) rfl
  | 6, 8, M, h, _ => by cases h; exact List.mem_of_getElem? (i := 105) rfl
  | 6, 9, M, h, _ => by cases h; exact List.mem_of_getElem? (i := 106) rfl
  | 6, 10, M, h, _ => by cases h; exact List.mem_of_getElem? (i := 107) rfl
  | 6, 11, M, h, _ => by cases h; exact List.mem_of_getElem? (i := 108) rfl
  | 6, 12, M, h, _ => by cases h; exact List.mem_of_getElem? (i := 109) rfl
  | 6, 13, M, h, _ => by cases h; exact List.mem_of_getElem? (i := 110) rfl
  | 6, 14, M, h, _ => by cases h; exact List.mem_of_getElem? (i := 111) rfl
  | 6, 15, M, h, _ => by cases h; exact List.mem_of_getElem? (i := 112) rfl
  | 6, b + 16, M, h, _ => by exact absurd h (by simp [pg_tab])
  | 7, 0, M, h, _ => by cases h; exact List.mem_of_getElem? (i := 113) rfl
  | 7, 1, M, h, _ => by cases h; exact List.mem_of_getElem? (i := 114) rfl
  | 7, 2, M, h, _ => by cases h; exact List.mem_of_getElem? (i := 115) rfl
  | 7, 3, M, h, _ => by cases h; exact List.mem_of_getElem? (i := 116) rfl
  | 7, 4, M, h, _ => by cases h; exact List.mem_of_getElem? (i := 117) rfl
  | 7, 5, M, h, _ => by cases h; exact List.mem_of_getElem? (i := 118) rfl
  | 7, 6, M, h, _ => by cases h; exact List.mem_of_getElem? (i := 119) rfl
  | 7, 7, M, h, _ => by cases h; exact List.mem_of_getElem? (i := 120) rfl
  | 7, 8, M, h, _ => by cases h; exact List.mem_of_getElem? (i := 121) rfl
  | 7, 9, M, h, _ => by cases h; exact List.mem_of_getElem? (i := 122) rfl
  | 7, 10, M, h, _ => by cases h; exact List.mem_of_getElem? (i := 123) rfl
  | 7, 11, M, h, _ => by cases h; exact List.mem_of_getElem? (i := 124) rfl
  | 7, 12, M, h, _ => by cases h; exact List.mem_of_getElem? (i := 125) rfl
  | 7, 13, M, h, _ => by cases h; exact List.mem_of_getElem? (i := 126) rfl
  | 7, 14, M, h, _ => by cases h; exact List.mem_of_getElem? (i := 127) rfl
  | 7, 15, M, h, _ => by cases h; exact List.mem_of_getElem? (i := 128) rfl
  | 7, b + 16, M, h, _ => by exact absurd h (by simp [pg_tab])
  | 8, 0, M, h, _ => by cases h; exact List.mem_of_getElem? (i := 129) rfl
  | 8, 1, M, h, _ => by cases h; exact List.mem_of_getElem? (i := 130) rfl
  | 8, 2, M, h, _ => by cases h; exact List.mem_of_getElem? (i := 131) rfl
  | 8, 3, M, h, _ => by cases h; exact List.mem_of_getElem? (i := 132) rfl
  | 8, 4, M, h, _ => by cases h; exact List.mem_of_getElem? (i := 133) rfl
  | 8, 5, M, h, _ => by cases h; exact List.mem_of_getElem? (i := 134) rfl
  | 8, 6, M, h, _ => by cases h; exact List.mem_of_getElem? (i := 135) rfl
  | 8, 7, M, h, _ => by cases h; exact List.mem_of_getElem? (i := 136) rfl
  | 8, 8, M, h, _ => by cases h; exact List.mem_of_getElem? (i := 137) rfl
  | 8, 9, M, h, _ => by cases h; exact List.mem_of_getElem? (i := 138) rfl
  | 8, 10, M, h, _ => by cases h; exact List.mem_of_getElem? (i := 139) rfl
  | 8, 11, M, h, _ => by cases h; exact List.mem_of_getElem? (i := 140) rfl
  | 8, 12, M, h, _ => by cases h; exact List.mem_of_getElem? (i := 141) rfl
  | 8, 13, M, h, _ => by cases h; exact List.mem_of_getElem? (i := 142) rfl
  | 8, 14, M, h, _ => by cases h; exact List.mem_of_getElem? (i := 143) rfl
  | 8, 15, M, h, _ => by cases h; exact List.mem_of_getElem? (i := 144) rfl
  | 8, b + 16, M, h, _ => by exact absurd h (by simp [pg_tab])
  | 9, 0, M, h, _ => by cases h; exact List.mem_of_getElem? (i := 145) rfl
  | 9, 1, M, h, _ => by cases h; exact List.mem_of_getElem? (i := 146) rfl
  | 9, 2, M, h, _ => by cases h; exact List.mem_of_getElem? (i := 147) rfl
  | 9, 3, M, h, _ => by cases h; exact List.mem_of_getElem? (i := 148) rfl
  | 9, 4, M, h, _ => by cases h; exact List.mem_of_getElem? (i := 149) rfl
  | 9, 5, M, h, _ => by cases h; exact List.mem_of_getElem? (i := 150) rfl
  | 9, 6, M, h, _ => by cases h; exact List.mem_of_getElem? (i := 151) rfl
  | 9, 7, M, h, _ => by cases h; exact List.mem_of_getElem? (i := 152) rfl
  | 9, 8, M, h, _ => by cases h; exact List.mem_of_getElem? (i := 153) rfl
  | 9, 9, M, h, _ => by cases h; exact List.mem_of_getElem? (i := 154) rfl
  | 9, 10, M, h, _ => by cases h; exact List.mem_of_getElem? (i := 155) rfl
  | 9, 11, M, h, _ => by cases h; exact List.mem_of_getElem? (i := 156) rfl
  | 9, 12, M, h, _ => by cases h; exact List.mem_of_getElem? (i := 157) rfl
  | 9, 13, M, h, _ => by cases h; exact List.mem_of_getElem? (i := 158) rfl
  | 9, 14, M, h, _ => by cases h; exact List.mem_of_getElem? (i := 159) rfl
  | 9, 15, M, h, _ => by cases h; exact List.mem_of_getElem? (i := 160) rfl
  | 9, b + 16, M, h, _ => by exact absurd h (by simp [pg_tab])
  | 10, 0, M, h, _ => by cases h; exact List.mem_of_getElem? (i := 161) rfl
  | 10, 1, M, h, _ => by cases h; exact List.mem_of_getElem? (i := 162) rfl
  | 10, 2, M, h, _ => by cases h; exact List.mem_of_getElem? (i := 163) rfl
  | 10, 3, M, h, _ => by cases h; exact List.mem_of_getElem? (i := 164) rfl
  | 10, 4, M, h, _ => by cases h; exact List.mem_of_getElem? (i := 165) rfl
  | 10, 5, M, h, _ => by cases h; exact List.mem_of_getElem? (i := 166) rfl
  | 10, 6, M, h, _ => by cases h; exact List.mem_of_getElem? (i := 167) rfl
  | 10, 7, M, h, _ => by cases h; exact List.mem_of_getElem? (i := 168) rfl
  | 10, 8, M, h, _ => by cases h; exact List.mem_of_getElem? (i := 169) rfl
  | 10, 9, M, h, _ => by cases h; exact List.mem_of_getElem? (i := 170) rfl
  | 10, 10, M, h, _ => by cases h; exact List.mem_of_getElem? (i := 171) rfl
  | 10, 11, M, h, _ => by cases h; exact List.mem_of_getElem? (i := 172) rfl
  | 10, 12, M, h, _ => by cases h; exact List.mem_of_getElem? (i := 173) rfl
  | 10, 13, M, h, _ => by cases h; exact List.mem_of_getElem? (i := 174) rfl
  | 10, 14, M, h, _ => by cases h; exact List.mem_of_getElem? (i := 175) rfl
  | 10, 15, M, h, _ => by cases h; exact List.mem_of_getElem? (i := 176) rfl
  | 10, b + 16, M, h, _ => by exact absurd h (by simp [pg_tab])
  | 11, 0, M, h, _ => by cases h; exact List.mem_of_getElem? (i := 177) rfl
  | 11, 1, M, h, _ => by cases h; exact List.mem_of_getElem? (i := 178) rfl
  | 11, 2, M, h, _ => by cases h; exact List.mem_of_getElem? (i := 179) rfl
  | 11, 3, M, h, _ => by cases h; exact List.mem_of_getElem? (i := 180) rfl
  | 11, 4, M, h, _ => by cases h; exact List.mem_of_getElem? (i := 181) rfl
  | 11, 5, M, h, _ => by cases h; exact List.mem_of_getElem? (i := 182) rfl
  | 11, 6, M, h, _ => by cases h; exact List.mem_of_getElem? (i := 183) rfl
  | 11, 7, M, h, _ => by cases h; exact List.mem_of_getElem? (i := 184) rfl
  | 11, 8, M, h, _ => by cases h; exact List.mem_of_getElem? (i := 185) rfl
  | 11, 9, M, h, _ => by cases h; exact List.mem_of_getElem? (i := 186) rfl
  | 11, 10, M, h, _ => by cases h; exact List.mem_of_getElem? (i := 187) rfl
  | 11, 11, M, h, _ => by cases h; exact List.mem_of_getElem? (i := 188) rfl
  | 11, 12, M, h, _ => by cases h; exact List.mem_of_getElem? (i := 189) rfl
  | 11, 13, M, h, _ => by cases h; exact List.mem_of_getElem? (i := 190) rfl
  | 11, 14, M, h, _ => by cases h; exact List.mem_of_getElem? (i := 191) rfl
  | 11, 15, M, h, _ => by cases h; exact List.mem_of_getElem? (i := 192) rfl
  | 11, b + 16, M, h, _ => by exact absurd h (by simp [pg_tab])
  | 12, 0, M, h, _ => by cases h; exact List.mem_of_getElem? (i := 193) rfl
  | 12, 1, M, h, _ => by cases h; exact List.mem_of_getElem? (i := 194) rfl
  | 12, 2, M, h, _ => by cases h; exact List.mem_of_getElem? (i := 195) rfl
  | 12, 3, M, h, _ => by cases h; exact List.mem_of_getElem? (i := 196) rfl
  | 12, 4, M, h, _ => by cases h; exact List.mem_of_getElem? (i := 197) rfl
  | 12, 5, M, h, _ => by cases h; exact List.mem_of_getElem? (i := 198) rfl
  | 12, 6, M, h, _ => by cases h; exact List.mem_of_getElem? (i := 199) rfl
  | 12, 7, M, h, _ => by cases h; exact List.mem_of_getElem? (i := 200) rfl
  | 12, 8, M, h, _ => by cases h; exact List.mem_of_getElem? (i := 201) rfl
  | 12, 9, M, h, _ => by cases h; exact List.mem_of_getElem? (i := 202) rfl
  | 12, 10, M, h, _ => by cases h; exact List.mem_of_getElem? (i := 203) rfl
  | 12, 11, M, h, _ => by cases h; exact List.mem_of_getElem? (i := 204) rfl
  | 12, 12, M, h, _ => by cases h; exact List.mem_of_getElem? (i := 205) rfl
  | 12, 13, M, h, _ => by cases h; exact List.mem_of_getElem? (i := 206) rfl
  | 12, 14, M, h, _ => by cases h; exact List.mem_of_getElem? (i := 207) rfl
  | 12, 15, M, h, _ => by cases h; exact List.mem_of_getElem? (i := 208) rfl
  | 12, b + 16, M, h, _ => by exact absurd h (by simp [pg_tab])
  | 13, 0, M, h, _ => by cases h; exact List.mem_of_getElem? (i := 209) rfl
  | 13, 1, M, h, _ => by cases h; exact List.mem_of_getElem? (i := 210) rfl
  | 13, 2, M, h, _ => by cases h; exact List.mem_of_getElem? (i := 211) rfl
  | 13, 3, M, h, _ => by cases h; exact List.mem_of_getElem? (i := 212) rfl
  | 13, 4, M, h, _ => by cases h; exact List.mem_of_getElem? (i := 213) rfl
  | 13, 5, M, h, _ => by cases h; exact List.mem_of_getElem? (i := 214) rfl
  | 13, 6, M, h, _ => by cases h; exact List.mem_of_getElem? (i := 215) rfl
  | 13, 7, M, h, _ => by cases h; exact List.mem_of_getElem? (i := 216) rfl
  | 13, 8, M, h, _ => by cases h; exact List.mem_of_getElem? (i := 217) rfl
  | 13, 9, M, h, _ => by cases h; exact List.mem_of_getElem? (i := 218) rfl
  | 13, 10, M, h, _ => by cases h; exact List.mem_of_getElem? (i := 219) rfl
  | 13, 11, M, h, _ => by cases h; exact List.mem_of_getElem? (i := 220) rfl
  | 13, 12, M, h, _ => by cases h; exact List.mem_of_getElem? (i := 221) rfl
  | 13, 13, M, h, _ => by cases h; exact List.mem_of_getElem? (i := 222) rfl
  | 13, 14, M, h, _ => by cases h; exact List.mem_of_getElem? (i := 223) rfl
  | 13, 15, M, h, _ => by cases h; exact List.mem_of_getElem? (i := 224) rfl
  | 13, b + 16, M, h, _ => by exact absurd h (by simp [pg_tab])
  | 14, 0, M, h, _ => by cases h; exact List.mem_of_getElem? (i := 225) rfl
  | 14, 1, M, h, _ => by cases h; exact List.mem_of_getElem? (i := 226) rfl
  | 14, 2, M, h, _ => by cases h; exact List.mem_of_getElem? (i := 227) rfl
  | 14, 3, M, h, _ => by cases h; exact List.mem_of_getElem? (i := 228) rfl
  | 14, 4, M, h, _ => by cases h; exact List.mem_of_getElem? (i := 229) rfl
  | 14, 5, M, h, _ => by cases h; exact List.mem_of_getElem? (i := 230) rfl
  | 14, 6, M, h, _ => by cases h; exact List.mem_of_getElem? (i := 231) rfl
  | 14, 7, M, h, _ => by cases h; exact List.mem_of_getElem? (i := 232) rfl
  | 14, 8, M, h, _ => by cases h; exact List.mem_of_getElem? (i := 233) rfl
  | 14, 9, M, h, _ => by cases h; exact List.mem_of_getElem? (i := 234) rfl
  | 14, 10, M, h, _ => by cases h; exact List.mem_of_getElem? (i := 235) rfl
  | 14, 11, M, h, _ => by cases h; exact List.mem_of_getElem? (i := 236) rfl
  | 14, 12, M, h, _ => by cases h; exact List.mem_of_getElem? (i := 237) rfl
  | 14, 13, M, h, _ => by cases h; exact List.mem_of_getElem? (i := 238) rfl
  | 14, 14, M, h, _ => by cases h; exact List.mem_of_getElem? (i := 239) rfl
  | 14, 15, M, h, hn => absurd rfl hn
  | 14, b + 16, M, h, _ => by exact absurd h (by simp [pg_tab])
  | a + 15, b, M, h, _ => by exact absurd h (by simp [pg_tab])
